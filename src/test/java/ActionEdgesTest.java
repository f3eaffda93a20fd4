/** Sentences of the document's Terms on ACTIONS, REGISTERS and the SUM that name boundary cases, one method each. */
public final class ActionEdgesTest {
    private static final Check check = new Check();

    private ActionEdgesTest() {
    }

    public static void main(String[] args) {
        actionsZeroToSeven();
        upToFiveOperations();
        numberOfSixteenBits();
        parameterZeroOrOne();
        fromFirstFieldToLast();
        exclusiveOr();
        becomesValidIfItWasNot();
        notValidAnyMore();
        dropWhereverItStands();
        againWhereverItStands();
        registersZeroToSeven();
        registerPlusFieldWraps();
        registerPlusFieldIsCut();
        asManyTokensAsBytes();
        bytesWhenParsedLast();
        zerosForTheField();
        zerosUpToSixteen();
        foldedUntilBelow();
        sumOfNoBits();
        check.finish();
    }

    private static void actionsZeroToSeven() {
        check.part("ACTIONS 0..7");
        SwitchDesk d = new SwitchDesk();
        for (int a = 0; a < 8; a++) check.due("action " + a, d.operation(a, 0, 27, 100 + a), 1);
        check.due("action -1", d.operation(-1, 0, 27, 1), -1);
        check.due("action 8", d.operation(8, 0, 27, 1), -1);
        for (int a = 0; a < 8; a++) {
            d.clear(1, 0);
            d.step(1, a, 0, 0);
            d.send(0);
            check.due("done: action " + a, d.field(27), 100 + a);
        }
    }

    private static void upToFiveOperations() {
        check.part("ACTIONS are rows of up to 5 OPERATIONS, done in order");
        for (int a = 0; a < 8; a++) {
            SwitchDesk d = new SwitchDesk();
            d.step(1, a, 0, 0);
            d.send(1);
            check.due("none: nothing is done", d.field(27), 0);
            int[][] all = {{0, 27, 7}, {3, 27, 27}, {3, 27, 24}, {3, 27, 27}, {4, 27, 24}};
            int[] due = {7, 14, 15, 30, 29};
            for (int i = 0; i < 5; i++) {
                check.due("how many", d.operation(a, all[i][0], all[i][1], all[i][2]), i + 1);
                d.send(1);
                check.due("in order: " + i, d.field(27), due[i]);
            }
            check.due("a sixth", d.operation(a, 0, 27, 1), -1);
            d.send(1);
            check.due("five still", d.field(27), 29);
        }
    }

    private static void numberOfSixteenBits() {
        check.part("OPERATION 0: f = number x (x of 0: 0..65535)");
        SwitchDesk d = new SwitchDesk();
        check.due("0", Desks.after(d, 0, 24, 0), 0);
        check.due("65535", Desks.after(d, 0, 24, 65535), 65535);
        check.due("-1", d.operation(0, 0, 24, -1), -1);
        check.due("65536", d.operation(0, 0, 24, 65536), -1);
        check.due("none was added", d.clear(0, 0), 0);
    }

    private static void parameterZeroOrOne() {
        check.part("OPERATION 1: f = PARAMETER x (0 or 1)");
        SwitchDesk d = new SwitchDesk();
        d.operation(0, 1, 26, 0);
        d.operation(0, 1, 27, 1);
        check.due("PARAMETER -1", d.operation(0, 1, 25, -1), -1);
        check.due("PARAMETER 2", d.operation(0, 1, 25, 2), -1);
        d.step(0, 0, 0, 1);
        int[][] both = {{0, 65535}, {65535, 0}, {1, 2}};
        for (int[] one : both) {
            d.entry(0, -1, 0, 0, one[0], one[1]);
            d.send(0);
            check.due("PARAMETER 0", d.field(26), one[0]);
            check.due("PARAMETER 1", d.field(27), one[1]);
        }
    }

    private static void fromFirstFieldToLast() {
        check.part("ACTIONS: f and x are fields, if nothing else is said");
        for (int what : new int[] {2, 3, 5}) {
            SwitchDesk d = new SwitchDesk();
            d.width(0, 16);
            Desks.act(d, Desks.op(0, 27, 0x5A5A), Desks.op(what, 0, 27));
            check.due("0 by 27 of " + what, d.field(0), 0x5A5A);
            Desks.act(d, Desks.op(0, 0, 0x5A5A), Desks.op(what, 27, 0));
            check.due("27 by 0 of " + what, d.field(27), 0x5A5A);
        }
        SwitchDesk d = new SwitchDesk();
        d.width(0, 16);
        Desks.act(d, Desks.op(0, 27, 5), Desks.op(4, 0, 27));
        check.due("0 less 27", d.field(0), 65531);
        Desks.act(d, Desks.op(0, 0, 5), Desks.op(0, 27, 5), Desks.op(4, 27, 0));
        check.due("27 less 0: just 0", d.field(27), 0);
        for (int what = 2; what <= 5; what++) {
            check.due("f -1 of " + what, d.operation(0, what, -1, 0), -1);
            check.due("f 28 of " + what, d.operation(0, what, 28, 0), -1);
            check.due("x -1 of " + what, d.operation(0, what, 0, -1), -1);
            check.due("x 28 of " + what, d.operation(0, what, 0, 28), -1);
        }
    }

    private static void exclusiveOr() {
        check.part("OPERATION 5: f = f XOR x");
        int[][] rows = {{0, 0}, {0, 65535}, {65535, 0}, {65535, 65535}, {0xA5C3, 0x0FF0}, {32768, 1}};
        for (int[] row : rows) {
            SwitchDesk d = new SwitchDesk();
            Desks.act(d, Desks.op(0, 26, row[0]), Desks.op(0, 27, row[1]), Desks.op(5, 26, 27));
            check.due(row[0] + " XOR " + row[1], d.field(26), row[0] ^ row[1]);
            check.due("x stays", d.field(27), row[1]);
            Desks.act(d, Desks.op(0, 26, row[0]), Desks.op(5, 26, 26));
            check.due(row[0] + " XOR itself", d.field(26), 0);
        }
    }

    private static void becomesValidIfItWasNot() {
        check.part("OPERATION 6: header f becomes VALID, if it was not, with all its fields 0");
        for (int h = 0; h < 6; h++) {
            SwitchDesk d = new SwitchDesk();
            for (int f = 0; f < 24; f++) d.width(f, 4);
            d.state(0, h, -1, 8);
            Desks.type(d, 0x12, 0x34);
            Desks.act(d, Desks.op(6, h, 0));
            check.due("it was: VALID", d.last(h), 1);
            for (int i = 0; i < 4; i++) check.due("it was: field " + i, d.field(4 * h + i), i + 1);
            Desks.act(d, Desks.op(7, h, 0), Desks.op(6, h, 0));
            check.due("it was not: VALID", d.last(h), 1);
            for (int i = 0; i < 4; i++) check.due("it was not: field " + i, d.field(4 * h + i), 0);
            for (int other = 0; other < 6; other++) {
                if (other == h) continue;
                Desks.act(d, Desks.op(0, 24, 9), Desks.op(6, other, 0));
                check.due("another", d.last(other), 1);
                for (int i = 0; i < 4; i++) check.due("field " + i + " beside it", d.field(4 * h + i), i + 1);
                check.due("METADATA beside it", d.field(24), 9);
            }
        }
        checkHeaderOf(6);
    }

    private static void checkHeaderOf(int what) {
        SwitchDesk d = new SwitchDesk();
        check.due("header 0", d.operation(0, what, 0, 0), 1);
        check.due("header 5", d.operation(0, what, 5, 0), 2);
        check.due("header -1", d.operation(0, what, -1, 0), -1);
        check.due("header 6", d.operation(0, what, 6, 0), -1);
    }

    private static void notValidAnyMore() {
        check.part("OPERATION 7: header f is not VALID any more (27: leaves the fields of the header what they are)");
        for (int h = 0; h < 6; h++) {
            SwitchDesk d = new SwitchDesk();
            for (int f = 4 * h; f < 4 * h + 4; f++) d.width(f, 4);
            d.state(0, h, -1, 8);
            d.order(h);
            Desks.type(d, 0x12, 0x34);
            Desks.act(d, Desks.op(7, h, 0));
            check.due("not VALID", d.last(h), 0);
            check.due("nothing is put together", d.out(-1), 0);
            for (int i = 0; i < 4; i++) check.due("field " + i, d.field(4 * h + i), i + 1);
            Desks.act(d, Desks.op(7, h, 0), Desks.op(7, h, 0));
            check.due("twice", d.last(h), 0);
            d.state(0, -1, -1, 8);
            Desks.act(d, Desks.op(7, h, 0));
            check.due("it was not", d.last(h), 0);
        }
        checkHeaderOf(7);
    }

    private static void dropWhereverItStands() {
        check.part("OPERATION 8: DROP (f of 8 and x of 8: not looked at)");
        int[] any = {0, -1, 28, Integer.MIN_VALUE, Integer.MAX_VALUE};
        for (int f : any) {
            for (int x : any) {
                SwitchDesk d = new SwitchDesk();
                check.due("DROP", Desks.act(d, Desks.op(8, f, x), Desks.op(0, 27, 3)), SwitchDesk.DROPPED);
                check.due("the OPERATION behind it is done", d.field(27), 3);
                check.due("twice", Desks.act(d, Desks.op(8, f, x), Desks.op(8, x, f)), SwitchDesk.DROPPED);
                d.clear(0, 7);
                check.due("not the next packet", d.send(0), SwitchDesk.OUT);
            }
        }
    }

    private static void againWhereverItStands() {
        check.part("OPERATION 9: AGAIN (f of 9 and x of 9: not looked at)");
        int[] any = {0, -1, 28, Integer.MIN_VALUE, Integer.MAX_VALUE};
        for (int f : any) {
            for (int x : any) {
                SwitchDesk d = new SwitchDesk();
                int[] again = Desks.op(9, f, x);
                check.due("AGAIN", Desks.act(d, again, again, Desks.op(0, 27, 3)), SwitchDesk.DROPPED);
                check.due("four times", d.last(6), 4);
                check.due("the OPERATION behind it is done", d.field(27), 3);
                d.clear(0, 7);
                check.due("not the next packet", d.send(0), SwitchDesk.OUT);
                check.due("once", d.last(6), 1);
            }
        }
    }

    private static void registersZeroToSeven() {
        check.part("REGISTERS 0..7 hold 0..65535, 0 at first, and keep it from packet to packet");
        for (int x = 0; x < 8; x++) {
            SwitchDesk d = new SwitchDesk();
            check.due("0 at first", Desks.after(d, 11, 27, x), 0);
            Desks.act(d, Desks.op(0, 27, 65535), Desks.op(12, 27, x));
            for (int r = 0; r < 8; r++) check.due("register " + r, d.register(r, false, 0), r == x ? 65535 : 0);
            check.due("in the next packet", Desks.after(d, 11, 27, x), 65535);
            d.state(0, -1, -1, 9);
            d.send(0);
            check.due("behind one that is REJECTED", d.register(x, false, 0), 65535);
        }
        SwitchDesk d = new SwitchDesk();
        for (int what = 11; what <= 13; what++) {
            check.due("register -1 of " + what, d.operation(0, what, 0, -1), -1);
            check.due("register 8 of " + what, d.operation(0, what, 0, 8), -1);
        }
    }

    private static void registerPlusFieldWraps() {
        check.part("OPERATION 13: register x = register x + f modulo 65536");
        int[][] rows = {{65534, 1, 65535}, {65535, 1, 0}, {65535, 65535, 65534}, {1, 65535, 0}, {0, 0, 0}};
        for (int[] row : rows) {
            SwitchDesk d = new SwitchDesk();
            d.register(7, true, row[0]);
            Desks.act(d, Desks.op(0, 26, row[1]), Desks.op(13, 26, 7));
            check.due(row[0] + " + " + row[1], d.register(7, false, 0), row[2]);
            check.due("and f the same", d.field(26), row[2]);
        }
    }

    private static void registerPlusFieldIsCut() {
        check.part("OPERATION 13: and f the same (cut)");
        for (int w = 0; w <= 16; w++) {
            SwitchDesk d = new SwitchDesk();
            d.width(0, w);
            d.register(0, true, 0x7FFF);
            Desks.act(d, Desks.op(0, 0, 65535), Desks.op(13, 0, 0));
            int sum = 0x7FFF + (1 << w) - 1 & 65535;
            check.due("the register, field of " + w + " bits", d.register(0, false, 0), sum);
            check.due("the field of " + w + " bits", d.field(0), sum & (1 << w) - 1);
        }
    }

    private static void asManyTokensAsBytes() {
        check.part("OPERATION 14: if METER x has as many TOKENS as the packet had bytes, these are taken, f = 0, else f = 1");
        for (int x = 0; x < 4; x++) {
            for (int bytes = 0; bytes <= 16; bytes += 4) {
                for (int tokens = Math.max(0, bytes - 1); tokens <= bytes + 1; tokens++) {
                    SwitchDesk d = new SwitchDesk();
                    d.set(0, x, 0, tokens);
                    for (int i = 0; i < bytes; i++) d.type(i);
                    Desks.act(d, Desks.op(0, 27, 7), Desks.op(14, 27, x));
                    String of = tokens + " for " + bytes;
                    check.due(of, d.field(27), tokens < bytes ? 1 : 0);
                    check.due(of + " left", d.tokens(x), tokens < bytes ? tokens : tokens - bytes);
                }
            }
        }
        SwitchDesk d = new SwitchDesk();
        check.due("meter -1", d.operation(0, 14, 0, -1), -1);
        check.due("meter 4", d.operation(0, 14, 0, 4), -1);
    }

    private static void bytesWhenParsedLast() {
        check.part("OPERATION 14: as the packet had bytes when it was PARSED last");
        SwitchDesk d = new SwitchDesk();
        for (int f = 0; f < 4; f++) d.width(f, 8);
        d.operation(0, 6, 0, 0);
        d.operation(0, 14, 27, 2);
        d.operation(0, 9, 0, 0);
        d.order(0);
        d.step(1, 0, 0, 0);
        d.set(0, 2, 0, 35);
        Desks.type(d, 1, 2, 3);
        check.due("four times", d.send(0), SwitchDesk.DROPPED);
        check.due("after 3, 7 and 11 bytes there is one too few for 15", d.field(27), 1);
        check.due("3, 7 and 11 were taken", d.tokens(2), 14);
        d.set(0, 2, 0, 36);
        d.send(0);
        check.due("just enough", d.field(27), 0);
        check.due("all were taken", d.tokens(2), 0);
        d.type(4);
        d.clear(0, 0);
        d.operation(0, 14, 27, 2);
        d.set(0, 2, 0, 4);
        d.send(0);
        check.due("the next packet's own", d.tokens(2), 0);
    }

    private static void zerosForTheField() {
        check.part("The SUM: the header's BITS, but with zeros for f if that is one of its fields");
        SwitchDesk d = new SwitchDesk();
        for (int f = 4; f < 12; f++) d.width(f, 16);
        d.state(0, 1, -1, 8);
        Desks.type(d, 0, 1, 0, 2, 0, 4, 0, 8);
        for (int i = 0; i < 4; i++) {
            check.due("field " + i + " of it", Desks.after(d, 10, 4 + i, 1), 65535 - 15 + (1 << i));
        }
        check.due("a field before it", Desks.after(d, 10, 3, 1), 0);
        d.width(3, 16);
        check.due("the field before it", Desks.after(d, 10, 3, 1), 65535 - 15);
        check.due("the field behind it", Desks.after(d, 10, 8, 1), 65535 - 15);
        check.due("METADATA", Desks.after(d, 10, 27, 1), 65535 - 15);
        check.due("header -1", d.operation(0, 10, 0, -1), -1);
        check.due("header 6", d.operation(0, 10, 0, 6), -1);
    }

    private static void zerosUpToSixteen() {
        check.part("The SUM: and zeros up to a multiple of 16, are numbers of 16 bits");
        for (int h = 0; h < 6; h += 5) {
            for (int bits = 1; bits <= 64; bits++) {
                SwitchDesk d = new SwitchDesk();
                int left = bits;
                for (int i = 3; i >= 0; i--) {
                    int w = Math.min(16, left);
                    d.width(4 * h + i, w);
                    left -= w;
                }
                // Only the last bit of the header is 1; it stands where the zeros behind it leave it.
                Desks.act(d, Desks.op(0, 4 * h + 3, 1), Desks.op(10, 27, h));
                check.due("header " + h + " of bits: " + bits, d.field(27), 65535 - (1 << (64 - bits) % 16));
            }
        }
    }

    private static void foldedUntilBelow() {
        check.part("The SUM: s / 65536 + s modulo 65536 until it is below 65536; the SUM is 65535 - s");
        int[][] rows = {
            {0, 0, 0, 0, 65535},
            {0, 0, 0, 1, 65534},
            {65534, 0, 0, 0, 1},
            {65535, 0, 0, 0, 0},
            {65535, 1, 0, 0, 65534},
            {65535, 65535, 0, 0, 0},
            {65535, 65535, 1, 0, 65534},
            {65535, 65534, 1, 1, 65534},
            {65535, 65535, 65535, 0, 0},
            {65535, 65535, 65535, 65535, 0},
            {65535, 65535, 65535, 3, 65532},
            {32768, 32768, 32768, 32768, 65533}};
        for (int[] row : rows) {
            SwitchDesk d = new SwitchDesk();
            for (int f = 0; f < 4; f++) d.width(f, 16);
            d.state(0, 0, -1, 8);
            for (int i = 0; i < 4; i++) {
                d.type(row[i] >> 8);
                d.type(row[i]);
            }
            String of = row[0] + " + " + row[1] + " + " + row[2] + " + " + row[3];
            check.due(of, Desks.after(d, 10, 25, 0), row[4]);
        }
    }

    private static void sumOfNoBits() {
        check.part("The SUM of a header without BITS, or with none but those of f");
        for (int h = 0; h < 6; h++) {
            SwitchDesk d = new SwitchDesk();
            check.due("no BITS", Desks.after(d, 10, 27, h), 65535);
            d.width(4 * h + 2, 16);
            d.state(0, h, -1, 8);
            Desks.type(d, 77, 88);
            check.due("only those of f", Desks.after(d, 10, 4 * h + 2, h), 65535);
        }
    }
}
