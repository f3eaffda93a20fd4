/** Sentences of the document's Terms on FIELDS and THE PARSER that name boundary cases, one method each. */
public final class FieldEdgesTest {
    private static final Check check = new Check();

    private FieldEdgesTest() {
    }

    public static void main(String[] args) {
        fourFieldsOfEachHeader();
        metadataAreTheLastFields();
        widthIsZeroToSixteen();
        cutWhenPut();
        cutWhenAddedOrTakenAway();
        bitsOfAHeader();
        statesZeroToSeven();
        eachTakesAHeaderOutOrNone();
        upToThreeCases();
        goals();
        atFirst();
        parsingBeginsAnew();
        nextBits();
        validPerhapsAgain();
        rejectIfNotSoMany();
        rejectIfNotSoManyLater();
        firstCase();
        whereverTheMaskHasAOne();
        defaultElse();
        thirteenthState();
        thirteenthStateEachTime();
        check.finish();
    }

    private static void fourFieldsOfEachHeader() {
        check.part("FIELDS: 0..23, four of each HEADER 0..5 (header h has 4 h .. 4 h + 3)");
        for (int h = 0; h < 6; h++) {
            SwitchDesk d = new SwitchDesk();
            for (int f = 0; f < 24; f++) d.width(f, 8);
            d.state(0, h, -1, 8);
            Desks.type(d, 11, 12, 13, 14, 15);
            d.send(77);
            for (int f = 0; f < 24; f++) {
                check.due("header " + h + ", field " + f, d.field(f), f / 4 == h ? 11 + f % 4 : 0);
            }
            check.due("the metadata behind", d.field(24), 77);
            check.due("the fifth byte is left", d.out(0), 15);
        }
    }

    private static void metadataAreTheLastFields() {
        check.part("FIELDS: and 24..27, the METADATA (METADATA 16)");
        SwitchDesk d = new SwitchDesk();
        for (int f = 24; f < 28; f++) {
            check.due("16 bits", Desks.after(d, 0, f, 65535), 65535);
            check.no("their WIDTH is not set", d.width(f, 16));
        }
        check.due("23 is none of them", Desks.after(d, 0, 23, 65535), 0);
        check.due("28 is no field", d.operation(0, 0, 28, 1), -1);
        check.due("28 holds nothing", d.field(28), -1);
    }

    private static void widthIsZeroToSixteen() {
        check.part("FIELDS: A field has a WIDTH of 0..16 bits (others 0 at first)");
        for (int f = 0; f < 24; f++) {
            SwitchDesk d = new SwitchDesk();
            check.due("0 at first", Desks.after(d, 0, f, 65535), 0);
            check.no("-1", d.width(f, -1));
            check.no("17", d.width(f, 17));
            check.due("0 still", Desks.after(d, 0, f, 65535), 0);
            for (int w = 0; w <= 16; w++) {
                check.yes("a WIDTH", d.width(f, w));
                check.due("field " + f + " of " + w + " bits", Desks.after(d, 0, f, 65535), (1 << w) - 1);
            }
        }
    }

    /** What field 5 of w bits holds after these OPERATIONS; register 0 has v, PARAMETERS are v and v. */
    private static int held(int w, int v, int[]... operations) {
        SwitchDesk d = new SwitchDesk();
        d.width(5, w);
        d.register(0, true, v);
        d.entry(0, -1, 0, 7, v, v);
        for (int[] one : operations) d.operation(7, one[0], one[1], one[2]);
        d.step(0, 0, 0, 1);
        d.send(v);
        return d.field(5);
    }

    private static void cutWhenPut() {
        check.part("FIELDS: what is put into one is cut to its lowest bits");
        for (int w = 0; w <= 16; w++) {
            int all = (1 << w) - 1;
            int[] numbers = {0, all, (all + 1) & 65535, (all + 2) & 65535, 65535, 0xA5C3};
            for (int v : numbers) {
                String of = v + " into " + w + " bits by ";
                check.due(of + 0, held(w, v, Desks.op(0, 5, v)), v & all);
                check.due(of + "1, PARAMETER 0", held(w, v, Desks.op(1, 5, 0)), v & all);
                check.due(of + "1, PARAMETER 1", held(w, v, Desks.op(1, 5, 1)), v & all);
                check.due(of + 2, held(w, v, Desks.op(2, 5, 24)), v & all);
                check.due(of + 3, held(w, v, Desks.op(3, 5, 24)), v & all);
                check.due(of + 5, held(w, v, Desks.op(5, 5, 24)), v & all);
                check.due(of + 11, held(w, v, Desks.op(11, 5, 0)), v & all);
                check.due(of + 13, held(w, v, Desks.op(13, 5, 0)), v & all);
            }
            check.due("a SUM into " + w + " bits", held(w, 0, Desks.op(10, 5, 0)), all);
            SwitchDesk d = new SwitchDesk();
            d.width(5, w);
            d.type(1);
            check.due("the 1 of a METER into " + w + " bits", Desks.after(d, 14, 5, 0), w == 0 ? 0 : 1);
        }
    }

    private static void cutWhenAddedOrTakenAway() {
        check.part("FIELDS: what is put into one is cut to its lowest bits, sums and differences");
        for (int w = 0; w <= 16; w++) {
            int all = (1 << w) - 1;
            check.due("0 - 1 in " + w + " bits", held(w, 1, Desks.op(4, 5, 24)), all);
            check.due("0 - 65535 in " + w + " bits", held(w, 65535, Desks.op(4, 5, 24)), 1 & all);
            check.due("highest + 1", held(w, 1, Desks.op(0, 5, 65535), Desks.op(3, 5, 24)), 0);
            check.due("highest + itself", held(w, 1, Desks.op(0, 5, 65535), Desks.op(3, 5, 5)), all & ~1);
            check.due("highest - 1", held(w, 1, Desks.op(0, 5, 65535), Desks.op(4, 5, 24)), all & ~1);
        }
        SwitchDesk d = new SwitchDesk();
        Desks.act(d, Desks.op(0, 25, 65535), Desks.op(0, 26, 1), Desks.op(3, 25, 26), Desks.op(4, 27, 26));
        check.due("65535 + 1 in METADATA", d.field(25), 0);
        check.due("0 - 1 in METADATA", d.field(27), 65535);
    }

    private static void bitsOfAHeader() {
        check.part("FIELDS: BITS are those of its fields, one field after the other, each from its highest bit on");
        SwitchDesk d = new SwitchDesk();
        d.width(8, 1);
        d.width(9, 16);
        d.width(10, 0);
        d.width(11, 7);
        d.state(0, 2, -1, 8);
        d.order(2);
        Desks.type(d, 0b11000000, 0b00000000, 0b11000001);
        check.due("24 bits", d.send(0), SwitchDesk.OUT);
        check.due("one bit", d.field(8), 1);
        check.due("sixteen bits", d.field(9), 0b1000000000000001);
        check.due("no bits", d.field(10), 0);
        check.due("seven bits", d.field(11), 0b1000001);
        check.due("put together again", (d.out(0) << 16) + (d.out(1) << 8) + d.out(2), 0b110000000000000011000001);
    }

    private static void statesZeroToSeven() {
        check.part("THE PARSER has STATES 0..7");
        SwitchDesk d = new SwitchDesk();
        for (int s = 0; s < 8; s++) check.yes("state " + s, d.state(s, -1, -1, s + 1));
        check.no("state -1", d.state(-1, -1, -1, 8));
        check.no("state 8", d.state(8, -1, -1, 8));
        check.due("through all of them", d.send(0), SwitchDesk.OUT);
        check.due("eight begun", d.last(7), 8);
    }

    private static void eachTakesAHeaderOutOrNone() {
        check.part("THE PARSER: Each takes a header out, or none; looks at a field, or none");
        for (int s = 0; s < 8; s++) {
            for (int h = -1; h < 6; h++) {
                SwitchDesk d = new SwitchDesk();
                if (h >= 0) d.width(4 * h + 3, 8);
                if (s > 0) d.state(0, -1, -1, s);
                d.state(s, h, h < 0 ? -1 : 4 * h + 3, h < 0 ? 8 : 9);
                d.branch(s, 0x5A, 0xFF, h < 0 ? 9 : 8);
                Desks.type(d, 0x5A);
                check.due("state " + s + ", header " + h, d.send(0), SwitchDesk.OUT);
                check.due("bytes left", d.out(-1), h < 0 ? 1 : 0);
                for (int other = 0; other < 6; other++) check.due("VALID", d.last(other), other == h ? 1 : 0);
            }
        }
    }

    private static void upToThreeCases() {
        check.part("THE PARSER: has up to 3 CASES (value, mask, goal)");
        SwitchDesk d = new SwitchDesk();
        d.state(0, -1, 24, 9);
        for (int c = 1; c <= 3; c++) check.due("case", d.branch(0, c, 65535, 8), c);
        check.due("a fourth", d.branch(0, 4, 65535, 8), -1);
        for (int p = 0; p <= 4; p++) {
            check.due("port " + p, d.send(p), p >= 1 && p <= 3 ? SwitchDesk.OUT : SwitchDesk.REJECTED);
        }
    }

    private static void goals() {
        check.part("THE PARSER: goals are 0..7 a state, 8 ACCEPT, 9 REJECT");
        for (int g = 0; g <= 9; g++) {
            SwitchDesk d = new SwitchDesk();
            check.yes("a DEFAULT goal", d.state(0, 0, -1, g));
            d.width(0, 8);
            Desks.type(d, 1);
            int due = g == 0 || g == 9 ? SwitchDesk.REJECTED : SwitchDesk.OUT;
            check.due("DEFAULT goal " + g, d.send(0), due);
            check.due("states begun", d.last(7), g >= 8 ? 1 : 2);
            d.state(0, 0, 0, g == 9 ? 8 : 9);
            check.due("a CASE", d.branch(0, 1, 255, g), 1);
            check.due("goal " + g + " of a CASE", d.send(0), due);
            check.due("states begun", d.last(7), g >= 8 ? 1 : 2);
        }
        SwitchDesk d = new SwitchDesk();
        for (int g : new int[] {-1, 10}) {
            check.no("DEFAULT goal " + g, d.state(0, -1, -1, g));
            check.due("goal of a CASE " + g, d.branch(0, 0, 0, g), -1);
        }
    }

    private static void atFirst() {
        check.part("THE PARSER: At first no state takes out or looks at anything, or has CASES, goals are ACCEPT");
        for (int s = 0; s < 8; s++) {
            SwitchDesk d = new SwitchDesk();
            for (int f = 0; f < 24; f++) d.width(f, 1);
            if (s > 0) d.state(0, -1, -1, s);
            Desks.type(d, 255, 255, 255);
            check.due("state " + s + " ACCEPTS", d.send(0), SwitchDesk.OUT);
            check.due("nothing was taken", d.out(-1), 3);
            for (int h = 0; h < 6; h++) check.due("VALID", d.last(h), 0);
            check.due("its first CASE", d.branch(s, 0, 0, 9), 1);
            check.due("it looks at nothing", d.send(0), SwitchDesk.OUT);
        }
    }

    private static void parsingBeginsAnew() {
        check.part("PARSING begins with state 0, no header being VALID and all fields of headers 0");
        SwitchDesk d = new SwitchDesk();
        for (int f = 0; f < 24; f++) d.width(f, 4);
        for (int s = 0; s < 6; s++) d.state(s, s, -1, s == 5 ? 8 : s + 1);
        Desks.type(d, 255, 255, 255, 255, 255, 255, 255, 255, 255, 255, 255, 255);
        d.send(0);
        for (int f = 0; f < 24; f++) check.due("taken", d.field(f), 15);
        d.state(0, -1, -1, 9);
        check.due("the next one", d.send(0), SwitchDesk.REJECTED);
        for (int f = 0; f < 24; f++) check.due("field " + f, d.field(f), 0);
        for (int h = 0; h < 6; h++) check.due("header " + h, d.last(h), 0);
        check.due("state 0 alone", d.last(7), 1);
    }

    private static void nextBits() {
        check.part("PARSING: the next bits of the packet that were not taken yet");
        for (int first = 0; first <= 16; first++) {
            SwitchDesk d = new SwitchDesk();
            d.width(3, first);
            d.width(4, 8);
            d.state(0, 0, -1, 1);
            d.state(1, 1, -1, 8);
            Desks.type(d, 0x12, 0x9B, 0xC7);
            d.send(0);
            int all = 0x129BC7;
            check.due("the first " + first, d.field(3), all >> (24 - first));
            check.due("the eight behind them", d.field(4), (all >> (16 - first)) & 255);
        }
    }

    private static void validPerhapsAgain() {
        check.part("PARSING: the header that it takes out, which is VALID then (perhaps again)");
        SwitchDesk d = new SwitchDesk();
        d.width(20, 8);
        d.state(0, 5, -1, 1);
        d.state(1, 5, -1, 8);
        Desks.type(d, 1, 2, 3);
        check.due("twice", d.send(0), SwitchDesk.OUT);
        check.due("VALID", d.last(5), 1);
        check.due("the later bits", d.field(20), 2);
        check.due("both are taken", d.out(0), 3);
        check.due("one is left", d.out(-1), 1);
    }

    private static void rejectIfNotSoMany() {
        check.part("PARSING: REJECT if there are not so many");
        for (int bytes = 0; bytes <= 8; bytes++) {
            SwitchDesk d = new SwitchDesk();
            for (int i = 0; i < bytes; i++) d.type(255);
            d.state(0, 3, -1, 8);
            int bits = 0;
            for (int f = 12; f < 16; f++) {
                int w = Math.min(16, 8 * bytes - bits);
                d.width(f, w);
                bits += w;
            }
            check.due("just as many in bytes: " + bytes, d.send(0), SwitchDesk.OUT);
            check.due("VALID", d.last(3), 1);
            check.due("none are left", d.out(-1), 0);
            if (bytes == 8) continue;
            d.width(12 + bytes / 2, 8 * (bytes % 2) + 1);
            check.due("one more in bytes: " + bytes, d.send(0), SwitchDesk.REJECTED);
            check.due("not VALID", d.last(3), 0);
            for (int f = 12; f < 16; f++) check.due("nothing came to field " + f, d.field(f), 0);
        }
    }

    private static void rejectIfNotSoManyLater() {
        check.part("PARSING: REJECT if there are not so many, of 16 bytes");
        SwitchDesk d = new SwitchDesk();
        for (int f = 0; f < 4; f++) d.width(f, 16);
        d.state(0, 0, -1, 1);
        d.state(1, 0, -1, 2);
        d.state(2, 1, -1, 8);
        for (int i = 1; i <= 16; i++) d.type(i);
        check.due("all 128, and a header without bits", d.send(0), SwitchDesk.OUT);
        check.due("the last two bytes", d.field(3), 0x0F10);
        check.due("none left", d.out(-1), 0);
        d.width(7, 1);
        check.due("a 129th", d.send(0), SwitchDesk.REJECTED);
        check.due("not VALID", d.last(1), 0);
        check.due("the one before is", d.last(0), 1);
        check.due("and has its bits", d.field(3), 0x0F10);
        check.due("its state was begun", d.last(7), 3);
    }

    private static void firstCase() {
        check.part("PARSING: the goal is that of its first CASE for which the field and the value are alike");
        SwitchDesk d = new SwitchDesk();
        d.state(0, -1, 24, 9);
        d.branch(0, 4, 4, 1);
        d.branch(0, 6, 6, 2);
        d.branch(0, 2, 2, 3);
        for (int s = 1; s < 4; s++) {
            d.width(4 * s, 8);
            d.state(s, s, -1, 8);
        }
        Desks.type(d, 9);
        int[] due = {0, 0, 3, 3, 1, 1, 1, 1};
        for (int p = 0; p < 8; p++) {
            check.due("port " + p, d.send(p), due[p] == 0 ? SwitchDesk.REJECTED : SwitchDesk.OUT);
            for (int h = 1; h < 4; h++) check.due("header " + h, d.last(h), h == due[p] ? 1 : 0);
        }
    }

    private static void whereverTheMaskHasAOne() {
        check.part("PARSING: alike wherever the mask has a 1");
        int value = 0xA5C3;
        for (int bit = 0; bit < 16; bit++) {
            SwitchDesk d = new SwitchDesk();
            d.state(0, -1, 24, 9);
            d.branch(0, value, 1 << bit, 8);
            check.due("alike in bit " + bit, d.send(~value & 65535 ^ 1 << bit), SwitchDesk.OUT);
            check.due("unlike in bit " + bit, d.send(value ^ 1 << bit), SwitchDesk.REJECTED);
            d.state(0, -1, 24, 9);
            d.branch(0, value, 65535, 8);
            check.due("all ones", d.send(value), SwitchDesk.OUT);
            check.due("all ones, unlike in bit " + bit, d.send(value ^ 1 << bit), SwitchDesk.REJECTED);
        }
        SwitchDesk d = new SwitchDesk();
        d.state(0, -1, 24, 9);
        d.branch(0, value, 0, 8);
        check.due("no ones", d.send(~value & 65535), SwitchDesk.OUT);
        d.state(0, -1, 0, 9);
        d.branch(0, 0x100, 0x1FF, 8);
        d.width(0, 8);
        check.due("a 1 above the WIDTH", d.send(0), SwitchDesk.REJECTED);
    }

    private static void defaultElse() {
        check.part("PARSING: else (or if it looks at none) the DEFAULT");
        SwitchDesk d = new SwitchDesk();
        d.state(0, -1, 24, 8);
        d.branch(0, 1, 65535, 9);
        check.due("no CASE fits", d.send(0), SwitchDesk.OUT);
        check.due("one does", d.send(1), SwitchDesk.REJECTED);
        d.state(0, -1, -1, 8);
        d.branch(0, 0, 0, 9);
        d.branch(0, 1, 65535, 9);
        check.due("it looks at none", d.send(1), SwitchDesk.OUT);
        d.state(0, -1, 24, 8);
        check.due("it has no CASES", d.send(1), SwitchDesk.OUT);
    }

    private static void thirteenthState() {
        check.part("PARSING: A thirteenth state is not begun: REJECT");
        for (int states = 11; states <= 13; states++) {
            SwitchDesk d = new SwitchDesk();
            d.width(0, 8);
            d.state(0, 0, 0, 0);
            d.branch(0, states, 255, 8);
            for (int i = 1; i <= 14; i++) d.type(i);
            check.due("states: " + states, d.send(0), states <= 12 ? SwitchDesk.OUT : SwitchDesk.REJECTED);
            check.due("begun", d.last(7), Math.min(states, 12));
            check.due("the last byte taken", d.field(0), Math.min(states, 12));
        }
        SwitchDesk d = new SwitchDesk();
        d.width(0, 8);
        d.state(0, 0, 0, 0);
        d.branch(0, 12, 255, 9);
        for (int i = 1; i <= 12; i++) d.type(i);
        check.due("the goal of the twelfth is REJECT", d.send(0), SwitchDesk.REJECTED);
        d.state(0, -1, -1, 0);
        check.due("without an end", d.send(0), SwitchDesk.REJECTED);
        check.due("twelve begun", d.last(7), 12);
    }

    private static void thirteenthStateEachTime() {
        check.part("PARSING: A thirteenth state is not begun, counted anew each time it is PARSED");
        SwitchDesk d = new SwitchDesk();
        d.width(0, 8);
        d.state(0, 0, 0, 0);
        d.branch(0, 12, 255, 8);
        for (int i = 1; i <= 12; i++) d.type(i);
        d.operation(0, 6, 1, 0);
        for (int f = 4; f < 8; f++) d.width(f, 8);
        d.operation(0, 0, 4, 12);
        d.operation(0, 9, 0, 0);
        d.operation(0, 0, 27, 1);
        d.order(1);
        d.step(2, 27, 0, 2);
        d.step(1, 0, 0, 0);
        check.due("twelve, and one more the second time", d.send(0), SwitchDesk.OUT);
        check.due("PARSED twice", d.last(6), 2);
        check.due("thirteen in all", d.last(7), 13);
    }
}
