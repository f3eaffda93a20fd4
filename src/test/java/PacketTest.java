/** Promises 14 to 20 and 27: packets that are sent, and what is left of them. */
public final class PacketTest {
    private static final Check check = new Check();

    private PacketTest() {
    }

    public static void main(String[] args) {
        send();
        sendTooLong();
        sendAgain();
        arithmetic();
        sums();
        headers();
        registersInActions();
        out();
        field();
        last();
        taken();
        register();
        count();
        check.finish();
    }

    private static void send() {
        check.part("14 send");
        SwitchDesk d = Desks.withHeader(0);
        Desks.type(d, 1, 2, 3);
        check.due("lowest port", d.send(0), SwitchDesk.OUT);
        check.due("highest port", d.send(65535), SwitchDesk.OUT);
        check.due("the port", d.field(24), 65535);
        for (int p : Desks.wrongFor(0, 65535)) check.due("port", d.send(p), -1);
        check.due("nothing changed", d.field(24), 65535);
        check.due("two were sent", d.count(0), 2);
        check.due("latest", d.out(-1), 3);
        check.due("the packet stays", d.clear(3, 0), 3);
        d.operation(0, 8, 0, 0);
        d.operation(0, 0, 27, 5);
        d.step(1, 0, 0, 0);
        d.step(1, 1, 0, 0);
        d.operation(1, 12, 27, 2);
        Desks.type(d, 1, 2, 3);
        check.due("DROP", d.send(0), SwitchDesk.DROPPED);
        check.due("the rest of the action is done", d.field(27), 5);
        check.due("the steps behind too", d.register(2, false, 0), 5);
        check.due("it does not come out", d.out(-1), -1);
        d.clear(1, 0);
        check.due("the next one does", d.send(6), SwitchDesk.OUT);
        check.due("metadata 24", d.field(24), 6);
        check.due("metadata 27 is 0 again", d.field(27), 0);
        d.step(1, 0, 0, 0);
        Desks.type(d, 1);
        check.due("REJECT before all", d.send(5), SwitchDesk.REJECTED);
        check.due("no steps", d.last(8), 0);
        check.due("metadata 24 is the port", d.field(24), 5);
        check.due("the others 0", d.field(27), 0);
    }

    private static void sendTooLong() {
        check.part("14 send, too long");
        SwitchDesk d = new SwitchDesk();
        d.width(0, 16);
        d.width(1, 15);
        d.operation(0, 6, 0, 0);
        d.operation(0, 0, 0, 0x2BCD);
        d.operation(0, 0, 1, 0x7001);
        d.step(1, 0, 0, 0);
        d.order(0);
        Desks.type(d, 1, 2, 3, 4, 5, 6, 7, 8, 9, 10, 11, 12);
        check.due("127 bits are 16 bytes", d.send(0), SwitchDesk.OUT);
        check.due("bytes", d.out(-1), 16);
        check.due("first", d.out(0), 0x2B);
        check.due("second", d.out(1), 0xCD);
        check.due("third", d.out(2), 0xE0);
        check.due("fourth", d.out(3), 0x02);
        check.due("last, with a zero", d.out(15), 24);
        d.width(1, 16);
        check.due("128 bits", d.send(0), SwitchDesk.OUT);
        check.due("last", d.out(15), 12);
        d.fetch(0);
        d.width(4, 1);
        d.operation(0, 6, 1, 0);
        d.operation(0, 0, 4, 1);
        d.order(1);
        Desks.type(d, 1, 2, 3, 4, 5, 6, 7, 8, 9, 10, 11, 255);
        check.due("129 bits are too many", d.send(0), SwitchDesk.DROPPED);
        check.due("nothing came out", d.out(-1), -1);
        check.due("dropped", d.count(1), 1);
        check.due("the fetched one stays", d.got(0), 0x2B);
        d.clear(3, 0);
        for (int i = 0; i < 4; i++) d.order(0);
        check.due("five times 32 bits and one", d.send(0), SwitchDesk.DROPPED);
        check.due("nobody got it", d.port(0, 0), 1);
        for (int w = 1; w < 17; w++) {
            d = new SwitchDesk();
            d.width(0, w);
            d.operation(0, 6, 0, 0);
            d.step(1, 0, 0, 0);
            d.order(0);
            check.due("a header alone", d.send(0), SwitchDesk.OUT);
            check.due("bytes for bits: " + w, d.out(-1), w > 8 ? 2 : 1);
        }
    }

    private static void sendAgain() {
        check.part("14 send, again");
        SwitchDesk d = new SwitchDesk();
        d.width(0, 8);
        d.width(4, 8);
        d.state(0, 0, -1, 8);
        d.operation(0, 0, 27, 1);
        d.operation(0, 3, 26, 27);
        d.operation(0, 9, 0, 0);
        d.step(2, 26, 2, 2);
        d.step(5, 0, 0, 16);
        d.step(1, 0, 0, 0);
        Desks.type(d, 1, 2, 3, 4, 5);
        check.due("three times", d.send(3), SwitchDesk.OUT);
        check.due("parsed", d.last(6), 3);
        check.due("states", d.last(7), 3);
        check.due("steps", d.last(8), 6);
        check.due("metadata stay", d.field(26), 2);
        check.due("the port stays", d.field(24), 3);
        check.due("each time a byte less", d.out(-1), 2);
        check.due("the rest", d.out(0), 4);
        check.due("field of the last time", d.field(0), 3);
        check.due("queued once, in queue 2", d.port(0, 2), 1);
        Desks.type(d, 1, 2);
        check.due("REJECTED the third time", d.send(0), SwitchDesk.REJECTED);
        check.due("parsed three times", d.last(6), 3);
        check.due("not valid then", d.last(0), 0);
        d.clear(1, 0);
        d.step(2, 26, 3, 2);
        d.step(5, 0, 0, 16);
        d.step(1, 0, 0, 0);
        Desks.type(d, 1, 2, 3, 4, 5);
        check.due("OUT the fourth time", d.send(0), SwitchDesk.OUT);
        check.due("a byte", d.out(0), 5);
        d.clear(1, 0);
        d.step(1, 0, 0, 0);
        check.due("AGAIN the fourth time", d.send(0), SwitchDesk.DROPPED);
        check.due("four times", d.last(6), 4);
        check.due("one count", d.count(1), 1);
        d.operation(0, 8, 0, 0);
        check.due("DROP and AGAIN", d.send(0), SwitchDesk.DROPPED);
        check.due("only once", d.last(6), 1);
        headersBegin();
        tooLongTheSecondTime();
    }

    private static void headersBegin() {
        check.part("14 send, again with other headers");
        SwitchDesk d = new SwitchDesk();
        d.width(0, 8);
        d.width(4, 8);
        d.operation(0, 6, 1, 0);
        d.operation(0, 0, 4, 99);
        d.operation(0, 0, 0, 98);
        d.operation(0, 0, 27, 1);
        d.operation(0, 9, 0, 0);
        d.step(2, 27, 0, 2);
        d.step(1, 0, 0, 0);
        d.order(1);
        Desks.type(d, 7);
        check.due("OUT", d.send(0), SwitchDesk.OUT);
        check.due("header 1 is not valid any more", d.last(1), 0);
        check.due("its field is 0", d.field(4), 0);
        check.due("field 0 is 0", d.field(0), 0);
        check.due("its bits are part of the packet", d.out(0), 99);
        check.due("and the byte", d.out(1), 7);
    }

    private static void tooLongTheSecondTime() {
        check.part("14 send, again and too long");
        SwitchDesk d = new SwitchDesk();
        for (int f = 0; f < 4; f++) d.width(f, 16);
        d.operation(0, 6, 0, 0);
        d.operation(0, 9, 0, 0);
        d.step(1, 0, 0, 0);
        d.order(0);
        Desks.type(d, 1);
        check.due("DROPPED", d.send(0), SwitchDesk.DROPPED);
        check.due("9 bytes, and 17 the second time", d.last(6), 2);
    }

    private static void arithmetic() {
        check.part("5 and 14, operations 0 to 5");
        SwitchDesk d = Desks.withHeader(0);
        d.width(1, 4);
        d.width(2, 4);
        d.width(3, 16);
        Desks.type(d, 0xF0, 0x35, 0x12, 0x34);
        check.due("a number, cut", Desks.after(d, 0, 0, 0x1234), 0x34);
        check.due("a field", Desks.after(d, 2, 3, 0), 0xF0);
        check.due("a field, cut", Desks.after(d, 2, 1, 3), 4);
        check.due("plus", Desks.after(d, 3, 3, 0), 0x1324);
        check.due("plus, cut", Desks.after(d, 3, 0, 3), 0x24);
        check.due("plus itself", Desks.after(d, 3, 0, 0), 0xE0);
        check.due("minus", Desks.after(d, 4, 0, 1), 0xED);
        check.due("minus below 0", Desks.after(d, 4, 1, 2), 14);
        check.due("minus below 0, 16 bits", Desks.after(d, 4, 25, 1), 65533);
        check.due("XOR", Desks.after(d, 5, 1, 2), 6);
        check.due("XOR, cut", Desks.after(d, 5, 0, 3), 0xF0 ^ 0x34);
        check.due("XOR itself", Desks.after(d, 5, 3, 3), 0);
        check.due("a field without width", Desks.after(d, 0, 7, 65535), 0);
        check.due("metadata of 16 bits", Desks.after(d, 3, 24, 3), 0x1234);
        d.operation(6, 1, 3, 0);
        d.operation(6, 1, 0, 0);
        d.operation(6, 1, 25, 1);
        d.entry(0, -1, 0, 6, 0xBEEF, 0xFEED);
        d.clear(1, 0);
        d.step(0, 0, 0, 1);
        d.send(0);
        check.due("parameter 0", d.field(3), 0xBEEF);
        check.due("parameter 0, cut", d.field(0), 0xEF);
        check.due("parameter 1", d.field(25), 0xFEED);
    }

    private static void sums() {
        check.part("5 and 14, operation 10");
        SwitchDesk d = new SwitchDesk();
        check.due("no bits", Desks.after(d, 10, 25, 5), 65535);
        for (int f = 8; f < 12; f++) d.width(f, 16);
        d.state(0, 2, -1, 8);
        Desks.type(d, 0xFF, 0xFF, 0xFF, 0xFF, 0, 1, 0x12, 0x34);
        // 65535 + 65535 + 1 + 4660 = 135731 = 2 * 65536 + 4659, folded 4661
        check.due("folded", Desks.after(d, 10, 25, 2), 65535 - 4661);
        // without the field itself: 65535 + 65535 + 1 = 131071 = 65536 + 65535, folded 65536, folded 1
        check.due("folded twice", Desks.after(d, 10, 11, 2), 65534);
        check.due("zeros for the first", Desks.after(d, 10, 8, 2), 65535 - 4661);
        Desks.type(d, 0, 0, 0, 0, 0, 0, 0, 0);
        check.due("of zeros", Desks.after(d, 10, 9, 2), 65535);
        Desks.type(d, 0xFF, 0xFF, 0, 0, 0, 0, 0, 0);
        check.due("of 65535", Desks.after(d, 10, 9, 2), 0);
        d.width(8, 3);
        d.width(9, 7);
        d.width(10, 9);
        d.width(11, 2);
        Desks.type(d, 0b10111001, 0b01010011, 0b01011000);
        // bits 101 1100101 010011010 11 in numbers of 16: 1011100101010011, 0101100000000000
        check.due("zeros behind", Desks.after(d, 10, 26, 2), 65535 - (0xB953 + 0x5800 - 65535));
        check.due("zeros for one field, cut", Desks.after(d, 10, 9, 2), (65535 - (0xA013 + 0x5800)) % 128);
        d.state(0, -1, -1, 8);
        check.due("of a header that is not valid", Desks.after(d, 10, 26, 2), 65535);
        Desks.type(d, 9);
        d.clear(1, 0);
        d.clear(0, 1);
        d.operation(1, 0, 11, 3);
        d.operation(1, 10, 26, 2);
        d.step(1, 1, 0, 0);
        d.send(0);
        check.due("its fields count all the same", d.field(26), 65535 - 0x1800);
        d.clear(1, 0);
        d.operation(3, 0, 4, 8);
        d.operation(3, 10, 26, 0);
        d.operation(3, 10, 25, 5);
        d.width(4, 16);
        d.step(1, 3, 0, 0);
        d.send(1234);
        check.due("without what stands behind header 0", d.field(26), 65535);
        check.due("without what stands behind header 5", d.field(25), 65535);
    }

    private static void headers() {
        check.part("27 and 14, operations 6 and 7");
        SwitchDesk d = Desks.withHeader(3);
        Desks.type(d, 65, 66, 67);
        d.operation(0, 7, 3, 0);
        d.step(1, 0, 0, 0);
        check.due("OUT", d.send(0), SwitchDesk.OUT);
        check.due("not valid any more", d.last(3), 0);
        check.due("its first field stays", d.field(12), 65);
        check.due("its second field stays", d.field(13), 66);
        check.due("it is not put together", d.out(-1), 1);
        check.due("the rest", d.out(0), 67);
        d.operation(0, 6, 3, 0);
        d.send(0);
        check.due("valid again", d.last(3), 1);
        check.due("its first field is 0", d.field(12), 0);
        check.due("its second field is 0", d.field(13), 0);
        check.due("it is put together", d.out(-1), 3);
        d.clear(0, 0);
        d.operation(0, 6, 3, 0);
        d.send(0);
        check.due("it was valid: its fields stay", d.field(13), 66);
        d.clear(0, 0);
        d.operation(0, 7, 2, -8);
        d.operation(0, 6, 5, -8);
        d.operation(0, 7, 3, 99);
        d.operation(0, 0, 12, 70);
        d.send(0);
        check.due("one that was not", d.last(2), 0);
        check.due("one that is now", d.last(5), 1);
        check.due("a field of one that is not valid", d.field(12), 70);
        d.clear(0, 0);
        d.operation(0, 6, 2, 0);
        d.send(0);
        check.due("the header behind stays", d.field(12), 65);
        d.clear(0, 0);
        d.operation(0, 6, 5, 0);
        d.send(9);
        check.due("the metadata behind stay", d.field(24), 9);
    }

    private static void registersInActions() {
        check.part("5 and 14, operations 11 to 13");
        SwitchDesk d = Desks.withHeader(0);
        Desks.type(d, 200, 100);
        d.register(7, true, 0x1FE);
        check.due("from a register, cut", Desks.after(d, 11, 0, 7), 0xFE);
        check.due("from a register", Desks.after(d, 11, 25, 7), 0x1FE);
        check.due("into a register", Desks.after(d, 12, 0, 6), 200);
        check.due("register 6", d.register(6, false, 0), 200);
        check.due("register 7", d.register(7, false, 0), 0x1FE);
        check.due("added, cut", Desks.after(d, 13, 0, 6), 400 - 256);
        check.due("register 6 is not cut", d.register(6, false, 0), 400);
        d.send(0);
        check.due("it keeps it from packet to packet", d.register(6, false, 0), 600);
        d.register(0, true, 65500);
        check.due("modulo 65536", Desks.after(d, 13, 1, 0), 64);
        check.due("register 0", d.register(0, false, 0), 64);
        d.state(0, -1, -1, 9);
        d.send(0);
        check.due("a rejected packet leaves it", d.register(0, false, 0), 64);
    }

    private static void out() {
        check.part("15 out");
        SwitchDesk d = new SwitchDesk();
        Desks.type(d, 10, 20, 255);
        d.send(0);
        check.due("how many", d.out(-1), 3);
        check.due("first", d.out(0), 10);
        check.due("last", d.out(2), 255);
        for (int k : Desks.wrongFor(-1, 2)) check.due("none " + k, d.out(k), -1);
        d.type(9);
        check.due("typed, not sent", d.out(-1), 3);
        d.send(-1);
        check.due("a refused port", d.out(0), 10);
        d.state(0, -1, -1, 9);
        d.send(0);
        check.due("the latest was rejected", d.out(-1), -1);
        check.due("no byte", d.out(0), -1);
        d.state(0, -1, -1, 8);
        d.clear(3, 0);
        d.send(0);
        check.due("no bytes", d.out(-1), 0);
        check.due("none", d.out(0), -1);
        d.operation(0, 8, 0, 0);
        d.step(1, 0, 0, 0);
        d.send(0);
        check.due("the latest was dropped", d.out(-1), -1);
        d.clear(1, 0);
        d.operation(1, 0, 25, 99);
        d.step(1, 1, 0, 0);
        check.due("to no port", d.send(0), SwitchDesk.OUT);
        check.due("comes out all the same", d.out(-1), 0);
    }

    private static void field() {
        check.part("16 field");
        SwitchDesk d = Desks.withHeader(5);
        Desks.type(d, 11, 22);
        d.send(77);
        check.due("20", d.field(20), 11);
        check.due("21", d.field(21), 22);
        check.due("23", d.field(23), 0);
        check.due("24", d.field(24), 77);
        check.due("27", d.field(27), 0);
        for (int f : Desks.wrongFor(0, 27)) check.due("no field", d.field(f), -1);
        Desks.type(d, 33);
        check.due("too short", d.send(78), SwitchDesk.REJECTED);
        check.due("as it was at the end", d.field(20), 0);
        check.due("its port", d.field(24), 78);
    }

    private static void last() {
        check.part("17 last");
        SwitchDesk d = Desks.withHeader(0);
        d.state(0, 0, -1, 4);
        d.state(4, -1, -1, 8);
        d.operation(0, 6, 5, 0);
        d.step(1, 0, 0, 0);
        d.step(5, 0, 0, 3);
        d.step(1, 0, 0, 0);
        d.step(1, 0, 0, 0);
        Desks.type(d, 1, 2);
        d.send(0);
        int[] due = {1, 0, 0, 0, 0, 1, 1, 2, 3};
        for (int w = 0; w < 9; w++) check.due("what " + w, d.last(w), due[w]);
        for (int w : Desks.wrongFor(0, 8)) check.due("no such", d.last(w), -1);
        d.send(70000);
        check.due("a refused port", d.last(8), 3);
        Desks.type(d, 1);
        d.send(0);
        int[] then = {0, 0, 0, 0, 0, 0, 1, 1, 0};
        for (int w = 0; w < 9; w++) check.due("rejected, what " + w, d.last(w), then[w]);
    }

    private static void taken() {
        check.part("18 taken");
        SwitchDesk d = new SwitchDesk();
        d.step(0, 0, 0, 1);
        d.step(0, 0, 0, 2);
        d.step(0, 3, 0, 3);
        d.entry(0, 11, 0, 0, 0, 0);
        d.entry(3, 0, 0, 0, 0, 0);
        d.match(3, 0, 0, 1, 0);
        d.send(0);
        check.due("twice", d.taken(0, 11), 2);
        check.due("default of 0", d.taken(0, -1), 0);
        check.due("default of 3", d.taken(3, -1), 1);
        check.due("entry of 3", d.taken(3, 0), 0);
        for (int t : Desks.wrongFor(0, 3)) {
            check.due("no table", d.taken(t, 0), -1);
            check.due("no table's default", d.taken(t, -1), -1);
        }
        for (int e : Desks.wrongFor(-1, 11)) check.due("no entry", d.taken(0, e), -1);
        for (int e = 0; e < 11; e++) check.due("not there", d.taken(0, e), -1);
        d.match(0, 11, 0, 9, 0);
        check.due("match leaves it", d.taken(0, 11), 2);
        d.send(1);
        check.due("not chosen", d.taken(0, 11), 2);
        check.due("default of 0, where the goal is the next", d.taken(0, -1), 2);
        check.due("entry of 3", d.taken(3, 0), 1);
        d.operation(0, 8, 0, 0);
        d.send(9);
        check.due("a dropped packet counts", d.taken(0, 11), 4);
        d.entry(0, 11, 0, 0, 0, 0);
        check.due("set anew", d.taken(0, 11), 0);
        d.entry(0, -1, 0, 1, 0, 0);
        d.keys(0, 25, 0, -1, 0);
        check.due("since the beginning", d.taken(0, -1), 2);
    }

    private static void register() {
        check.part("19 register");
        SwitchDesk d = new SwitchDesk();
        for (int x = 0; x < 8; x++) check.due("set", d.register(x, true, 100 + x), 100 + x);
        for (int x = 0; x < 8; x++) check.due("read", d.register(x, false, 9), 100 + x);
        for (int x : Desks.wrongFor(0, 7)) {
            check.due("none", d.register(x, true, 1), -1);
            check.due("none", d.register(x, false, 1), -1);
        }
        check.due("65535", d.register(0, true, 65535), 65535);
        check.due("65536", d.register(0, true, 65536), 0);
        check.due("65537", d.register(0, true, 65537), 1);
        check.due("-1", d.register(0, true, -1), 65535);
        check.due("-65536", d.register(0, true, -65536), 0);
        check.due("least", d.register(0, true, Integer.MIN_VALUE), 0);
        check.due("greatest", d.register(0, true, Integer.MAX_VALUE), 65535);
        check.due("kept", d.register(0, false, 4), 65535);
    }

    private static void count() {
        check.part("20 count");
        SwitchDesk d = Desks.withHeader(0);
        d.operation(0, 8, 0, 0);
        d.step(2, 0, 1, 16);
        d.step(1, 0, 0, 0);
        int[][] packets = {{1, 0}, {2, 0}, {2}, {2, 9}, {1, 1}, {3, 3}, {}};
        for (int[] packet : packets) {
            Desks.type(d, packet);
            d.send(0);
        }
        d.send(-5);
        check.due("OUT", d.count(0), 3);
        check.due("DROPPED", d.count(1), 2);
        check.due("REJECTED", d.count(2), 2);
        for (int w : Desks.wrongFor(0, 2)) check.due("others", d.count(w), -1);
        check.due("the constants", SwitchDesk.OUT * 100 + SwitchDesk.DROPPED * 10 + SwitchDesk.REJECTED, 12);
        check.due("NONE and REFUSED", SwitchDesk.NONE + SwitchDesk.REFUSED, -2);
    }
}
