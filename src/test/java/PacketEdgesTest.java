/** Sentences of the document's Terms on a PACKET that name boundary cases, one method each. */
public final class PacketEdgesTest {
    private static final Check check = new Check();

    private PacketEdgesTest() {
    }

    public static void main(String[] args) {
        upToSixteenBytes();
        bitsFromTheHighest();
        metadataWhenSent();
        rejectEndsAll();
        stepsBehindDrop();
        dropBeforeTooLong();
        validHeadersInTheOrder();
        orderOfSix();
        namedTwice();
        bitsNotTaken();
        zerosUpToAByte();
        moreThanSixteenBytes();
        farMoreThanSixteenBytes();
        metadataStay();
        fieldsDoNotStay();
        againIsAskedEachTime();
        rejectedAgain();
        droppedAgain();
        tooLongAgain();
        fourthTime();
        check.finish();
    }

    private static void upToSixteenBytes() {
        check.part("A PACKET is a row of up to 16 bytes");
        SwitchDesk d = new SwitchDesk();
        for (int bytes = 0; bytes <= 16; bytes++) {
            check.due("OUT", d.send(0), SwitchDesk.OUT);
            check.due("bytes", d.out(-1), bytes);
            check.due("the last", d.out(bytes - 1), bytes == 0 ? 0 : 200 + bytes);
            check.due("none behind it", d.out(bytes), -1);
            check.due("one more", d.type(201 + bytes), bytes == 16 ? -1 : bytes + 1);
        }
        d.send(0);
        for (int k = 0; k < 16; k++) check.due("byte " + k, d.out(k), 201 + k);
    }

    private static void bitsFromTheHighest() {
        check.part("A PACKET: its bits each byte's from the highest on");
        for (int k = 0; k < 128; k++) {
            SwitchDesk d = new SwitchDesk();
            for (int i = 0; i < 16; i++) d.type(i == k / 8 ? 128 >> k % 8 : 0);
            for (int f = 0; f < 8; f++) d.width(f, 16);
            d.state(0, 0, -1, 1);
            d.state(1, 1, -1, 8);
            d.send(0);
            for (int f = 0; f < 8; f++) {
                check.due("bit " + k + ", field " + f, d.field(f), f == k / 16 ? 32768 >> k % 16 : 0);
            }
        }
    }

    private static void metadataWhenSent() {
        check.part("It is SENT to a PORT: METADATA 24 is the port, the others 0");
        SwitchDesk d = new SwitchDesk();
        Desks.act(d, Desks.op(0, 24, 9), Desks.op(0, 25, 9), Desks.op(0, 26, 9), Desks.op(0, 27, 9));
        for (int f = 24; f < 28; f++) check.due("metadata " + f, d.field(f), 9);
        d.clear(1, 0);
        for (int port : new int[] {0, 1, 65534, 65535}) {
            d.send(port);
            check.due("the port", d.field(24), port);
            for (int f = 25; f < 28; f++) check.due("metadata " + f, d.field(f), 0);
        }
        d.state(0, -1, -1, 9);
        d.send(5);
        check.due("the port of one that is REJECTED", d.field(24), 5);
    }

    private static void rejectEndsAll() {
        check.part("A PACKET: if that ends with REJECT, all is over");
        SwitchDesk d = new SwitchDesk();
        Desks.act(d, Desks.op(0, 27, 1), Desks.op(12, 27, 0));
        d.register(0, true, 0);
        d.state(0, -1, -1, 9);
        check.due("REJECTED", d.send(0), SwitchDesk.REJECTED);
        check.due("no step is done", d.last(8), 0);
        check.due("no field is changed", d.field(27), 0);
        check.due("no register is changed", d.register(0, false, 0), 0);
        check.due("nothing comes OUT", d.out(-1), -1);
        check.due("nothing is queued, but the one before", d.port(0, 0), 1);
    }

    private static void stepsBehindDrop() {
        check.part("A PACKET: the steps are done, to the end also behind DROP; then it is DROPPED");
        for (int drop = 0; drop < 16; drop++) {
            SwitchDesk d = new SwitchDesk();
            d.operation(0, 0, 26, 1);
            d.operation(0, 3, 27, 26);
            d.operation(1, 8, 0, 0);
            for (int n = 0; n < 16; n++) d.step(1, n == drop ? 1 : 0, 0, 0);
            check.due("DROP at " + drop, d.send(0), SwitchDesk.DROPPED);
            check.due("sixteen steps", d.last(8), 16);
            check.due("fifteen others", d.field(27), 15);
            check.due("nothing comes OUT", d.out(-1), -1);
            check.due("nothing is queued", d.port(0, 0) + d.port(0, 1) + d.port(0, 2), 0);
        }
    }

    private static void dropBeforeTooLong() {
        check.part("A PACKET: if there was a DROP, it is DROPPED, else it is put together");
        SwitchDesk d = new SwitchDesk();
        d.type(1);
        check.due("DROP and AGAIN", Desks.act(d, Desks.op(9, 0, 0), Desks.op(8, 0, 0)), SwitchDesk.DROPPED);
        check.due("once", d.last(6), 1);
        check.due("AGAIN and DROP", Desks.act(d, Desks.op(8, 0, 0), Desks.op(9, 0, 0)), SwitchDesk.DROPPED);
        check.due("once", d.last(6), 1);
        check.due("neither", Desks.act(d, Desks.op(0, 27, 0)), SwitchDesk.OUT);
        check.due("one byte", d.out(-1), 1);
    }

    private static void validHeadersInTheOrder() {
        check.part("A PACKET: the BITS of the headers that are VALID in the ORDER (empty at first)");
        SwitchDesk d = new SwitchDesk();
        for (int h = 0; h < 6; h++) {
            d.width(4 * h, 8);
            d.state(h, h, -1, h == 2 ? 8 : h + 1);
        }
        Desks.type(d, 1, 2, 3, 4);
        d.send(0);
        check.due("empty: only the rest", d.out(-1), 1);
        int[][] rows = {{5}, {0}, {2, 1, 0}, {3, 0, 4}, {0, 1, 2, 3, 4, 5}, {5, 4, 3, 2, 1, 0}};
        int[][] due = {{4}, {1, 4}, {3, 2, 1, 4}, {1, 4}, {1, 2, 3, 4}, {3, 2, 1, 4}};
        for (int i = 0; i < rows.length; i++) {
            d.clear(2, 0);
            for (int h : rows[i]) d.order(h);
            d.send(0);
            dueOut(d, "ORDER " + i, due[i]);
        }
    }

    private static void dueOut(SwitchDesk d, String of, int... bytes) {
        check.due(of + ", bytes", d.out(-1), bytes.length);
        for (int k = 0; k < bytes.length; k++) check.due(of + ", byte " + k, d.out(k), bytes[k]);
        check.due(of + ", none behind", d.out(bytes.length), -1);
    }

    private static void orderOfSix() {
        check.part("A PACKET: the ORDER (a row of up to 6 headers)");
        SwitchDesk d = new SwitchDesk();
        for (int h = 0; h < 6; h++) {
            d.width(4 * h, 8);
            d.state(h, h, -1, h == 5 ? 8 : h + 1);
            check.due("how many", d.order(5 - h), h + 1);
        }
        check.due("a seventh", d.order(0), -1);
        Desks.type(d, 1, 2, 3, 4, 5, 6);
        d.send(0);
        dueOut(d, "all six", 6, 5, 4, 3, 2, 1);
    }

    private static void namedTwice() {
        check.part("A PACKET: the ORDER, one may be named twice");
        SwitchDesk d = new SwitchDesk();
        d.width(23, 8);
        d.state(0, 5, -1, 8);
        Desks.type(d, 7, 8);
        for (int i = 1; i <= 6; i++) {
            check.due("named times", d.order(5), i);
            d.send(0);
            check.due("bytes", d.out(-1), i + 1);
            for (int k = 0; k < i; k++) check.due("its byte", d.out(k), 7);
            check.due("the rest", d.out(i), 8);
        }
    }

    private static void bitsNotTaken() {
        check.part("A PACKET: then the bits that were not taken when it was PARSED, and zeros up to a whole byte");
        for (int taken = 0; taken <= 16; taken++) {
            SwitchDesk d = new SwitchDesk();
            d.width(0, taken);
            d.state(0, 0, -1, 8);
            Desks.type(d, 0xB7, 0xED);
            d.send(0);
            int left = 16 - taken;
            check.due("bytes left of bits: " + left, d.out(-1), (left + 7) / 8);
            int row = 0xB7ED << taken & 65535;
            if (left > 0) check.due("first of bits: " + left, d.out(0), row >> 8);
            if (left > 8) check.due("second of bits: " + left, d.out(1), row & 255);
            d.width(0, 16);
            check.due("a WIDTH set later leaves what came OUT", d.out(-1), (left + 7) / 8);
        }
    }

    private static void zerosUpToAByte() {
        check.part("A PACKET: and zeros up to a whole byte");
        for (int bits = 0; bits <= 64; bits++) {
            SwitchDesk d = new SwitchDesk();
            int left = bits;
            for (int f = 0; f < 4; f++) {
                int w = Math.min(16, left);
                d.width(f, w);
                left -= w;
            }
            d.order(0);
            Desks.act(d, Desks.op(6, 0, 0), Desks.op(0, 0, 65535), Desks.op(0, 1, 65535), Desks.op(0, 2, 65535), Desks.op(0, 3, 65535));
            int bytes = (bits + 7) / 8;
            check.due("bytes of bits: " + bits, d.out(-1), bytes);
            for (int k = 0; k < bytes; k++) {
                int ones = Math.min(8, bits - 8 * k);
                check.due("byte " + k + " of bits: " + bits, d.out(k), 256 - (256 >> ones));
            }
        }
    }

    private static void moreThanSixteenBytes() {
        check.part("A PACKET: if these are more than 16 bytes, it is DROPPED");
        for (int w = 0; w <= 16; w++) {
            for (int bytes = 14; bytes <= 16; bytes++) {
                SwitchDesk d = new SwitchDesk();
                d.width(0, w);
                d.order(0);
                for (int i = 0; i < bytes; i++) d.type(255);
                int bits = w + 8 * bytes;
                int result = Desks.act(d, Desks.op(6, 0, 0));
                check.due("bits: " + bits, result, bits <= 128 ? SwitchDesk.OUT : SwitchDesk.DROPPED);
                check.due("bytes of bits: " + bits, d.out(-1), bits <= 128 ? (bits + 7) / 8 : -1);
                check.due("queued", d.port(0, 0), bits <= 128 ? 1 : 0);
                check.due("OUT", d.count(0), bits <= 128 ? 1 : 0);
                check.due("DROPPED", d.count(1), bits <= 128 ? 0 : 1);
            }
        }
    }

    private static void farMoreThanSixteenBytes() {
        check.part("A PACKET: more than 16 bytes, as many as there can be");
        SwitchDesk d = new SwitchDesk();
        for (int f = 0; f < 4; f++) d.width(f, 16);
        for (int i = 0; i < 16; i++) d.type(i);
        d.send(0);
        d.fetch(0);
        Desks.type(d, 255, 255, 255, 255, 255, 255, 255, 255, 255, 255, 255, 255, 255, 255, 255, 255);
        for (int i = 0; i < 6; i++) d.order(0);
        int result = Desks.act(d, Desks.op(6, 0, 0), Desks.op(0, 0, 65535), Desks.op(0, 3, 65535));
        check.due("64 bytes", result, SwitchDesk.DROPPED);
        for (int k = 0; k < 16; k++) check.due("what was FETCHED stays, byte " + k, d.got(k), k);
        check.due("what is typed stays", d.clear(3, 0), 16);
        check.due("48 bytes", d.send(0), SwitchDesk.DROPPED);
        for (int k = 0; k < 16; k++) check.due("what was FETCHED stays, byte " + k, d.got(k), k);
        d.clear(2, 0);
        d.order(0);
        d.order(0);
        check.due("16 bytes", d.send(0), SwitchDesk.OUT);
        for (int k = 0; k < 16; k++) check.due("byte " + k, d.out(k), k % 8 < 2 || k % 8 > 5 ? 255 : 0);
        d.order(0);
        check.due("24 bytes", d.send(0), SwitchDesk.DROPPED);
    }

    private static void metadataStay() {
        check.part("AGAIN: this packet is PARSED in its turn, the METADATA staying as they are");
        SwitchDesk d = new SwitchDesk();
        d.operation(0, 0, 24, 11);
        d.operation(0, 0, 25, 12);
        d.operation(0, 0, 26, 13);
        d.operation(0, 0, 27, 14);
        d.operation(0, 9, 0, 0);
        d.step(2, 27, 0, 2);
        d.step(1, 0, 0, 0);
        check.due("OUT", d.send(3), SwitchDesk.OUT);
        check.due("twice", d.last(6), 2);
        for (int f = 24; f < 28; f++) check.due("metadata " + f, d.field(f), f - 13);
        d.state(0, -1, 27, 8);
        d.branch(0, 14, 65535, 9);
        check.due("the PARSER sees them", d.send(3), SwitchDesk.REJECTED);
    }

    private static void fieldsDoNotStay() {
        check.part("AGAIN: PARSED in its turn: no header being VALID and all fields of headers 0");
        SwitchDesk d = new SwitchDesk();
        d.width(0, 8);
        d.width(23, 8);
        d.operation(0, 6, 0, 0);
        d.operation(0, 0, 0, 5);
        d.operation(0, 0, 23, 6);
        d.operation(0, 0, 27, 1);
        d.operation(0, 9, 0, 0);
        d.step(2, 27, 0, 2);
        d.step(1, 0, 0, 0);
        d.order(0);
        d.type(9);
        check.due("OUT", d.send(0), SwitchDesk.OUT);
        check.due("header 0", d.last(0), 0);
        check.due("field 0", d.field(0), 0);
        check.due("field 23", d.field(23), 0);
        dueOut(d, "put together once", 5, 9);
    }

    private static void againIsAskedEachTime() {
        check.part("AGAIN: and so on; else it comes OUT");
        for (int times = 1; times <= 4; times++) {
            SwitchDesk d = counting(times);
            check.due("OUT", d.send(0), SwitchDesk.OUT);
            check.due("PARSED", d.last(6), times);
            check.due("states", d.last(7), times);
            check.due("steps", d.last(8), 2 * times);
            check.due("OUT once", d.count(0), 1);
            check.due("queued once", d.port(0, 0) + d.port(0, 1) + d.port(0, 2), 1);
            dueOut(d, "a byte less each time", bytesFrom(times));
        }
    }

    private static int[] bytesFrom(int first) {
        int[] bytes = new int[6 - first];
        for (int i = 0; i < bytes.length; i++) bytes[i] = first + 1 + i;
        return bytes;
    }

    /** Each time takes a byte off; METADATA 27 counts, and AGAIN is asked for until it was PARSED so often. */
    private static SwitchDesk counting(int times) {
        SwitchDesk d = new SwitchDesk();
        d.width(0, 8);
        d.state(0, 0, -1, 8);
        d.operation(0, 0, 26, 1);
        d.operation(0, 3, 27, 26);
        d.operation(0, 0, 26, 0);
        d.operation(0, 9, 0, 0);
        d.step(2, 27, times - 1, 2);
        d.step(5, 0, 0, 16);
        d.step(1, 0, 0, 0);
        Desks.type(d, 1, 2, 3, 4, 5, 6);
        return d;
    }

    private static void rejectedAgain() {
        check.part("AGAIN: PARSED in its turn (if that ends with REJECT, all is over)");
        for (int bytes = 0; bytes < 4; bytes++) {
            SwitchDesk d = counting(9);
            d.clear(3, 0);
            for (int i = 0; i < bytes; i++) d.type(i);
            check.due("REJECTED", d.send(0), SwitchDesk.REJECTED);
            check.due("PARSED", d.last(6), bytes + 1);
            check.due("steps of the times before", d.last(8), 2 * bytes);
            check.due("one count", d.count(2), 1);
            check.due("not VALID", d.last(0), 0);
        }
    }

    private static void droppedAgain() {
        check.part("AGAIN: a DROP of a later time");
        for (int times = 1; times <= 4; times++) {
            SwitchDesk d = counting(times);
            d.clear(1, 0);
            d.operation(1, 8, 0, 0);
            d.step(2, 27, times - 1, 2);
            d.step(1, 1, 0, 0);
            d.step(1, 0, 0, 0);
            check.due("DROPPED", d.send(0), SwitchDesk.DROPPED);
            check.due("PARSED", d.last(6), times);
            check.due("one count", d.count(1), 1);
        }
    }

    private static void tooLongAgain() {
        check.part("AGAIN: if these are more than 16 bytes, it is DROPPED, a later time");
        int[] due = {4, 4, 4, 4, 4, 3, 3, 3, 3, 2, 2, 2, 2, 1, 1, 1, 1};
        for (int bytes = 0; bytes <= 16; bytes++) {
            SwitchDesk d = new SwitchDesk();
            for (int f = 0; f < 4; f++) d.width(f, 8);
            d.order(0);
            for (int i = 0; i < bytes; i++) d.type(i);
            check.due("DROPPED", Desks.act(d, Desks.op(6, 0, 0), Desks.op(9, 0, 0)), SwitchDesk.DROPPED);
            check.due("PARSED, of bytes: " + bytes, d.last(6), due[bytes]);
        }
    }

    private static void fourthTime() {
        check.part("AGAIN: at the end of a fourth time with AGAIN it is DROPPED");
        SwitchDesk d = counting(4);
        check.due("the fourth without: OUT", d.send(0), SwitchDesk.OUT);
        check.due("four times", d.last(6), 4);
        d = counting(5);
        check.due("the fourth with: DROPPED", d.send(0), SwitchDesk.DROPPED);
        check.due("four times", d.last(6), 4);
        check.due("the steps of the fourth are done", d.last(8), 8);
        check.due("its action too", d.field(27), 4);
        check.due("its fields are those of the fourth", d.field(0), 4);
        check.due("nothing comes OUT", d.out(-1), -1);
        check.due("one count", d.count(1), 1);
        d.clear(1, 0);
        check.due("the next packet begins anew", d.send(0), SwitchDesk.OUT);
        check.due("once", d.last(6), 1);
    }
}
