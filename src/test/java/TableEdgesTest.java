/** Sentences of the document's Terms on TABLES and STEPS that name boundary cases, one method each. */
public final class TableEdgesTest {
    private static final int EXACT = 0, PREFIX = 1, MASKED = 2;

    private static final Check check = new Check();

    private TableEdgesTest() {
    }

    public static void main(String[] args) {
        tablesZeroToThree();
        oneOrTwoKeys();
        keysAtFirst();
        defaultAtFirst();
        entriesZeroToEleven();
        exactMask();
        exactOfSixteenBits();
        prefixMask();
        prefixOfSixteenBits();
        maskedMask();
        parametersOfSixteenBits();
        fitsForEachKey();
        greatestRank();
        mostOnes();
        mostOnesOfTheMask();
        leastNumber();
        upToSixteenSteps();
        oneAfterTheOther();
        goalAboveItsOwn();
        goalBehindAll();
        tableStep();
        actionStep();
        unlessFieldIs();
        unlessValid();
        unlessBelow();
        atTheGoal();
        check.finish();
    }

    /** Table 0 has these keys and is the only step. */
    private static SwitchDesk looking(int f, int kind, int g, int second) {
        SwitchDesk d = new SwitchDesk();
        d.keys(0, f, kind, g, second);
        d.step(0, 0, 0, 16);
        return d;
    }

    /** Whether entry e of table 0 is CHOSEN for a packet that is SENT to this port. */
    private static int chosen(SwitchDesk d, int e, int port) {
        int before = d.taken(0, e);
        d.send(port);
        return d.taken(0, e) - before;
    }

    private static void tablesZeroToThree() {
        check.part("TABLES 0..3");
        SwitchDesk d = new SwitchDesk();
        for (int t = 0; t < 4; t++) {
            check.yes("entry of table " + t, d.entry(t, 0, 0, 0, 0, 0));
            check.due("step", d.step(0, t, 0, 16), t);
        }
        for (int t : new int[] {-1, 4}) {
            check.no("keys of table " + t, d.keys(t, 24, 0, -1, 0));
            check.no("entry of table " + t, d.entry(t, 0, 0, 0, 0, 0));
            check.no("default of table " + t, d.entry(t, -1, 0, 0, 0, 0));
            check.no("match of table " + t, d.match(t, 0, 0, 0, 0));
            check.no("erase of table " + t, d.erase(t, 0));
            check.due("taken of table " + t, d.taken(t, 0), -1);
            check.due("step of table " + t, d.step(0, t, 0, 16), -1);
        }
        d.send(0);
        for (int t = 0; t < 4; t++) check.due("CHOSEN in table " + t, d.taken(t, 0), 1);
    }

    private static void oneOrTwoKeys() {
        check.part("TABLES have one or two KEYS (a field each, EXACT, PREFIX or MASKED)");
        for (int kind = 0; kind < 3; kind++) {
            SwitchDesk d = looking(24, kind, -1, 0);
            d.entry(0, 0, 0, 0, 0, 0);
            check.yes("key 0", d.match(0, 0, 0, 5, 16));
            check.no("no key 1", d.match(0, 0, 1, 5, 16));
            d.keys(0, 24, kind, 24, kind);
            d.entry(0, 0, 0, 0, 0, 0);
            check.yes("key 0 of two", d.match(0, 0, 0, 5, 16));
            check.yes("key 1 of two", d.match(0, 0, 1, 5, 16));
            check.no("no key 2", d.match(0, 0, 2, 5, 16));
            check.no("no key -1", d.match(0, 0, -1, 5, 16));
        }
    }

    private static void keysAtFirst() {
        check.part("TABLES: at first one, field 24, EXACT");
        for (int t = 0; t < 4; t++) {
            SwitchDesk d = new SwitchDesk();
            d.entry(t, 0, 0, 0, 0, 0);
            d.step(0, t, 0, 16);
            check.no("only one", d.match(t, 0, 1, 0, 0));
            d.match(t, 0, 0, 40000, 0);
            d.send(40000);
            check.due("field 24", d.taken(t, 0), 1);
            for (int bit = 0; bit < 16; bit++) d.send(40000 ^ 1 << bit);
            check.due("EXACT", d.taken(t, 0), 1);
        }
    }

    private static void defaultAtFirst() {
        check.part("TABLES: a DEFAULT (action and two PARAMETERS; at first 0, 0, 0)");
        for (int t = 0; t < 4; t++) {
            SwitchDesk d = new SwitchDesk();
            for (int a = 0; a < 8; a++) d.operation(a, 0, 25, 100 + a);
            d.operation(0, 0, 26, 5);
            d.operation(0, 1, 26, 0);
            d.operation(0, 0, 27, 5);
            d.operation(0, 1, 27, 1);
            d.step(0, t, 0, 16);
            d.send(0);
            check.due("action 0", d.field(25), 100);
            check.due("PARAMETER 0", d.field(26), 0);
            check.due("PARAMETER 1", d.field(27), 0);
        }
    }

    private static void entriesZeroToEleven() {
        check.part("TABLES: ENTRIES 0..11, there or not");
        SwitchDesk d = looking(24, EXACT, -1, 0);
        for (int e = 0; e < 12; e++) {
            check.due("entry " + e + " is not there", d.taken(0, e), -1);
            check.yes("entry " + e, d.entry(0, e, 0, 0, 0, 0));
            check.yes("its value", d.match(0, e, 0, 100 + e, 0));
        }
        check.no("entry -2", d.entry(0, -2, 0, 0, 0, 0));
        check.no("entry 12", d.entry(0, 12, 0, 0, 0, 0));
        for (int e = 0; e < 12; e++) check.due("entry " + e + " is CHOSEN", chosen(d, e, 100 + e), 1);
        check.due("none before them", chosen(d, -1, 99), 1);
        check.due("none behind them", chosen(d, -1, 112), 1);
        for (int e = 0; e < 12; e++) check.due("each once", d.taken(0, e), 1);
    }

    private static void exactMask() {
        check.part("TABLES: a mask (EXACT: 65535)");
        int[] numbers = {0, 65535, 0xA5C3};
        for (int v : numbers) {
            SwitchDesk d = looking(24, EXACT, -1, 0);
            d.entry(0, 0, 0, 0, 0, 0);
            check.yes("a value", d.match(0, 0, 0, v, 0));
            check.due("alike: " + v, chosen(d, 0, v), 1);
            for (int bit = 0; bit < 16; bit++) check.due("but bit " + bit, chosen(d, 0, v ^ 1 << bit), 0);
        }
    }

    private static void exactOfSixteenBits() {
        check.part("TABLES: alike wherever the mask has a 1 (of 16 bits), EXACT");
        for (int w = 0; w <= 16; w++) {
            SwitchDesk d = looking(3, EXACT, -1, 0);
            d.width(3, w);
            d.state(0, 0, -1, 8);
            Desks.type(d, 255, 255);
            d.entry(0, 0, 0, 0, 0, 0);
            d.match(0, 0, 0, (1 << w) - 1, 0);
            check.due("the greatest of bits: " + w, chosen(d, 0, 0), 1);
            if (w == 16) continue;
            d.match(0, 0, 0, (1 << w + 1) - 1, 0);
            check.due("a value with a 1 above the WIDTH " + w, chosen(d, 0, 0), 0);
            d.match(0, 0, 0, 0x8000 | (1 << w) - 1, 0);
            check.due("a value with a 1 far above the WIDTH " + w, chosen(d, 0, 0), 0);
        }
    }

    private static void prefixMask() {
        check.part("TABLES: PREFIX: the highest n bits of the field's WIDTH, or all of it, if n is more");
        for (int w = 0; w <= 16; w++) {
            for (int n = 0; n <= 16; n++) {
                SwitchDesk d = looking(5, PREFIX, -1, 0);
                d.width(5, w);
                d.state(0, 1, -1, 8);
                d.entry(0, 0, 0, 0, 0, 0);
                Desks.type(d, 0xA5, 0xC3);
                int held = 0xA5C3 >> 16 - w;
                check.yes("n " + n, d.match(0, 0, 0, held, n));
                check.due("alike", chosen(d, 0, 0), 1);
                for (int bit = 0; bit < 16; bit++) {
                    d.match(0, 0, 0, held ^ 1 << bit, n);
                    boolean looked = bit < w && bit >= w - Math.min(n, w);
                    check.due("WIDTH " + w + ", n " + n + ", but bit " + bit, chosen(d, 0, 0), looked ? 0 : 1);
                }
            }
        }
    }

    private static void prefixOfSixteenBits() {
        check.part("TABLES: PREFIX of METADATA, the highest n bits of 16");
        for (int n = 0; n <= 16; n++) {
            SwitchDesk d = looking(24, PREFIX, -1, 0);
            d.entry(0, 0, 0, 0, 0, 0);
            d.match(0, 0, 0, 0x3C5A, n);
            check.due("alike", chosen(d, 0, 0x3C5A), 1);
            for (int bit = 0; bit < 16; bit++) {
                check.due("n " + n + ", but bit " + bit, chosen(d, 0, 0x3C5A ^ 1 << bit), bit >= 16 - n ? 0 : 1);
            }
        }
        SwitchDesk d = looking(24, PREFIX, -1, 0);
        d.entry(0, 0, 0, 0, 0, 0);
        check.no("n -1", d.match(0, 0, 0, 0, -1));
        check.no("n 17", d.match(0, 0, 0, 0, 17));
    }

    private static void maskedMask() {
        check.part("TABLES: MASKED: any");
        int[] masks = {0, 1, 0x8000, 0x8001, 0x0FF0, 0xAAAA, 65535};
        for (int mask : masks) {
            SwitchDesk d = looking(24, MASKED, -1, 0);
            d.entry(0, 0, 0, 0, 0, 0);
            check.yes("mask " + mask, d.match(0, 0, 0, 0xA5C3, mask));
            check.due("alike", chosen(d, 0, 0xA5C3), 1);
            for (int bit = 0; bit < 16; bit++) {
                int due = (mask >> bit & 1) == 1 ? 0 : 1;
                check.due("mask " + mask + ", but bit " + bit, chosen(d, 0, 0xA5C3 ^ 1 << bit), due);
            }
        }
        SwitchDesk d = looking(0, MASKED, -1, 0);
        d.width(0, 8);
        d.entry(0, 0, 0, 0, 0, 0);
        check.no("mask -1", d.match(0, 0, 0, 0, -1));
        check.no("mask 65536", d.match(0, 0, 0, 0, 65536));
        d.match(0, 0, 0, 0x100, 0x100);
        check.due("a 1 above the WIDTH", chosen(d, 0, 0), 0);
        d.match(0, 0, 0, 0x100, 0xFF);
        check.due("no 1 there", chosen(d, 0, 0), 1);
    }

    private static void parametersOfSixteenBits() {
        check.part("TABLES: an action and two PARAMETERS 0..65535");
        for (int e : new int[] {-1, 0, 11}) {
            for (int a = 0; a < 8; a += 7) {
                SwitchDesk d = looking(24, EXACT, -1, 0);
                d.operation(a, 1, 26, 0);
                d.operation(a, 1, 27, 1);
                int[][] both = {{0, 65535}, {65535, 0}};
                for (int[] one : both) {
                    check.yes("as said", d.entry(0, e, 0, a, one[0], one[1]));
                    d.send(0);
                    check.due("PARAMETER 0", d.field(26), one[0]);
                    check.due("PARAMETER 1", d.field(27), one[1]);
                }
                check.no("-1 and 0", d.entry(0, e, 0, a, -1, 0));
                check.no("65536 and 0", d.entry(0, e, 0, a, 65536, 0));
                check.no("0 and -1", d.entry(0, e, 0, a, 0, -1));
                check.no("0 and 65536", d.entry(0, e, 0, a, 0, 65536));
                d.send(0);
                check.due("PARAMETER 0 still", d.field(26), 65535);
            }
        }
    }

    private static void fitsForEachKey() {
        check.part("TABLES: An entry FITS if for each key the field and the value are alike");
        for (int kind = 0; kind < 3; kind++) {
            for (int second = 0; second < 3; second++) {
                SwitchDesk d = new SwitchDesk();
                d.keys(0, 24, kind, 27, second);
                d.operation(0, 11, 27, 0);
                d.step(1, 0, 0, 0);
                d.step(0, 0, 0, 16);
                d.entry(0, 0, 0, 1, 0, 0);
                d.match(0, 0, 0, 5, kind == PREFIX ? 16 : 65535);
                d.match(0, 0, 1, 6, second == PREFIX ? 16 : 65535);
                for (int one = 0; one < 4; one++) {
                    d.register(0, true, one % 2 == 0 ? 6 : 7);
                    int due = one == 0 ? 1 : 0;
                    check.due("kinds " + kind + " and " + second, chosen(d, 0, one < 2 ? 5 : 4), due);
                }
            }
        }
    }

    private static void greatestRank() {
        check.part("TABLES: a RANK 0..15; of those that FIT the one with the greatest RANK is CHOSEN");
        for (int rank = 0; rank < 15; rank++) {
            SwitchDesk d = looking(24, PREFIX, -1, 0);
            d.entry(0, 3, rank, 0, 0, 0);
            d.match(0, 3, 0, 9, 16);
            d.entry(0, 4, rank + 1, 0, 0, 0);
            check.due("one greater, though fewer ones and a later number", chosen(d, 4, 9), 1);
            d.entry(0, 2, rank, 0, 0, 0);
            check.due("also behind two", chosen(d, 4, 9), 1);
            d.match(0, 4, 0, 8, 16);
            check.due("only of those that FIT", chosen(d, 3, 9), 1);
        }
        SwitchDesk d = looking(24, EXACT, -1, 0);
        check.no("RANK -1", d.entry(0, 0, -1, 0, 0, 0));
        check.no("RANK 16", d.entry(0, 0, 16, 0, 0, 0));
        check.due("neither is there", d.taken(0, 0), -1);
    }

    private static void mostOnes() {
        check.part("TABLES: of several that with the most ones in the masks of PREFIX keys together");
        for (int n = 0; n < 16; n++) {
            for (int m = 0; m <= 16; m++) {
                SwitchDesk d = looking(24, PREFIX, 24, PREFIX);
                d.entry(0, 2, 1, 0, 0, 0);
                d.match(0, 2, 0, 7, n);
                d.match(0, 2, 1, 7, m);
                d.entry(0, 9, 1, 0, 0, 0);
                d.match(0, 9, 0, 7, m);
                d.match(0, 9, 1, 7, n + 1);
                check.due("one more together: " + n + " and " + m, chosen(d, 9, 7), 1);
                d.match(0, 9, 1, 7, n);
                check.due("as many: the least number", chosen(d, 2, 7), 1);
            }
        }
        int[] others = {EXACT, MASKED};
        for (int kind : others) {
            SwitchDesk d = looking(24, kind, 24, PREFIX);
            d.entry(0, 2, 1, 0, 0, 0);
            d.match(0, 2, 0, 7, 65535);
            d.match(0, 2, 1, 7, 3);
            d.entry(0, 9, 1, 0, 0, 0);
            d.match(0, 9, 0, 7, 0);
            d.match(0, 9, 1, 7, 4);
            check.due("those of other keys do not count", chosen(d, 9, 7), 1);
        }
    }

    private static void mostOnesOfTheMask() {
        check.part("TABLES: ones in the masks: all of the WIDTH, if n is more");
        for (int w = 0; w <= 16; w++) {
            SwitchDesk d = looking(0, PREFIX, -1, 0);
            d.width(0, w);
            d.entry(0, 5, 0, 0, 0, 0);
            d.match(0, 5, 0, 0, w);
            d.entry(0, 6, 0, 0, 0, 0);
            d.match(0, 6, 0, 0, 16);
            check.due("n of all " + w + " has as many ones as n 16", chosen(d, 5, 0), 1);
            if (w == 0) continue;
            d.match(0, 5, 0, 0, w - 1);
            check.due("n of one less than " + w + " has fewer", chosen(d, 6, 0), 1);
        }
    }

    private static void leastNumber() {
        check.part("TABLES: of several that with the least number");
        SwitchDesk d = looking(24, MASKED, -1, 0);
        for (int e = 11; e >= 0; e--) {
            d.entry(0, e, 15, 0, 0, 0);
            check.due("entry " + e, chosen(d, e, 3), 1);
        }
        for (int e = 0; e < 11; e++) {
            d.erase(0, e);
            check.due("entry " + (e + 1), chosen(d, e + 1, 3), 1);
        }
        d.erase(0, 11);
        check.due("none", chosen(d, -1, 3), 1);
    }

    private static void upToSixteenSteps() {
        check.part("STEPS, up to 16");
        SwitchDesk d = new SwitchDesk();
        d.operation(0, 0, 26, 1);
        d.operation(0, 3, 27, 26);
        d.send(0);
        check.due("none", d.last(8), 0);
        for (int n = 0; n < 16; n++) {
            check.due("its number", d.step(1, 0, 0, 0), n);
            d.send(0);
            check.due("all are done", d.field(27), n + 1);
            check.due("and counted", d.last(8), n + 1);
        }
        check.due("a seventeenth", d.step(1, 0, 0, 0), -1);
        d.send(0);
        check.due("sixteen are done", d.field(27), 16);
    }

    private static void oneAfterTheOther() {
        check.part("STEPS are done from number 0 on, one after the other, but as said");
        SwitchDesk d = new SwitchDesk();
        d.operation(0, 1, 26, 0);
        d.operation(0, 3, 27, 27);
        d.operation(0, 3, 27, 26);
        for (int n = 0; n < 16; n++) d.step(1, 0, n % 3 == 0 ? 1 : 0, 0);
        d.send(0);
        check.due("the first makes the highest bit", d.field(27), 0b1001001001001001);
    }

    private static void goalAboveItsOwn() {
        check.part("STEPS: a goal is a number above the step's own, up to 16 (behind all)");
        for (int what : new int[] {0, 2, 3, 4, 5}) {
            SwitchDesk d = new SwitchDesk();
            for (int n = 0; n < 16; n++) {
                check.due("its own number, step " + what, d.step(what, 0, 0, n), -1);
                check.due("0, step " + what, d.step(what, 0, 0, 0), -1);
                check.due("-1, step " + what, d.step(what, 0, 0, -1), -1);
                check.due("17, step " + what, d.step(what, 0, 0, 17), -1);
                check.due("the next or 16, step " + what, d.step(what, 0, 0, n % 2 == 0 ? n + 1 : 16), n);
            }
        }
    }

    private static void goalBehindAll() {
        check.part("STEPS: up to 16 (behind all), also where there are fewer");
        for (int goal = 1; goal <= 16; goal++) {
            for (int steps = 1; steps <= 16; steps++) {
                SwitchDesk d = new SwitchDesk();
                d.operation(0, 0, 26, 1);
                d.operation(0, 3, 27, 26);
                d.step(5, 0, 0, goal);
                for (int n = 1; n < steps; n++) d.step(1, 0, 0, 0);
                check.due("OUT", d.send(0), SwitchDesk.OUT);
                int due = Math.max(0, steps - goal);
                check.due("goal " + goal + " of " + steps, d.field(27), due);
                check.due("done", d.last(8), 1 + due);
            }
        }
    }

    /** What is added up behind a step: 1 by the next step, 10 by the step at its goal. */
    private static void dueBehind(SwitchDesk d, String of, boolean goesOnAtGoal) {
        d.clear(0, 7);
        d.operation(7, 1, 26, 0);
        d.operation(7, 3, 27, 26);
        d.step(1, 7, 1, 0);
        d.step(1, 7, 10, 0);
        d.register(1, true, 0);
        d.operation(7, 12, 27, 1);
        d.send(6);
        check.due(of, d.register(1, false, 0), goesOnAtGoal ? 10 : 11);
        check.due(of + ", steps", d.last(8), goesOnAtGoal ? 2 : 3);
        d.clear(1, 0);
    }

    private static void tableStep() {
        check.part("STEP 0: the action of the CHOSEN entry; if there is none, the DEFAULT, and it goes on at the goal");
        for (int t = 0; t < 4; t++) {
            SwitchDesk d = new SwitchDesk();
            d.operation(1, 0, 25, 50);
            d.operation(2, 0, 25, 60);
            d.entry(t, -1, 0, 1, 0, 0);
            d.step(0, t, -1, 2);
            dueBehind(d, "no entry is there", true);
            check.due("the DEFAULT", d.field(25), 50);
            d.entry(t, 0, 0, 2, 0, 0);
            d.match(t, 0, 0, 7, 0);
            d.step(0, t, 65536, 2);
            dueBehind(d, "it does not FIT", true);
            check.due("the DEFAULT", d.field(25), 50);
            d.match(t, 0, 0, 6, 0);
            d.step(0, t, 0, 2);
            dueBehind(d, "it FITS", false);
            check.due("its action", d.field(25), 60);
        }
    }

    private static void actionStep() {
        check.part("STEP 1: action a, PARAMETERS b and 0 (b 0..65535; goal of 1 not looked at)");
        for (int a = 0; a < 8; a++) {
            SwitchDesk d = new SwitchDesk();
            d.operation(a, 0, 27, 9);
            d.operation(a, 1, 26, 0);
            d.operation(a, 1, 27, 1);
            d.operation(a, 0, 25, 8);
            for (int b : new int[] {0, 65535}) {
                for (int goal : new int[] {0, -1, 17, Integer.MIN_VALUE, Integer.MAX_VALUE}) {
                    d.clear(1, 0);
                    check.due("step", d.step(1, a, b, goal), 0);
                    d.step(1, (a + 1) % 8, 0, 0);
                    d.send(0);
                    check.due("b", d.field(26), b);
                    check.due("and 0", d.field(27), 0);
                    check.due("goes on behind it", d.last(8), 2);
                }
            }
            check.due("b -1", d.step(1, a, -1, 0), -1);
            check.due("b 65536", d.step(1, a, 65536, 0), -1);
        }
        SwitchDesk d = new SwitchDesk();
        check.due("action -1", d.step(1, -1, 0, 0), -1);
        check.due("action 8", d.step(1, 8, 0, 0), -1);
    }

    private static void unlessFieldIs() {
        check.part("STEP 2: goes on at the goal, unless field a is b (0..65535)");
        SwitchDesk d = new SwitchDesk();
        d.width(0, 16);
        d.state(0, 0, -1, 8);
        int[] numbers = {0, 1, 255, 256, 65534, 65535};
        for (int v : numbers) {
            Desks.type(d, v >> 8, v);
            for (int b : new int[] {v - 1, v, v + 1}) {
                if (b < 0 || b > 65535) {
                    check.due("b " + b, d.step(2, 0, b, 2), -1);
                    continue;
                }
                d.step(2, 0, b, 2);
                dueBehind(d, v + " and " + b, b != v);
            }
        }
        d.step(2, 27, 0, 2);
        dueBehind(d, "field 27 is 0", false);
        check.due("field -1", d.step(2, -1, 0, 2), -1);
        check.due("field 28", d.step(2, 28, 0, 2), -1);
    }

    private static void unlessValid() {
        check.part("STEP 3: unless header a is VALID (b not looked at)");
        for (int h = 0; h < 6; h++) {
            SwitchDesk d = new SwitchDesk();
            d.state(0, h, -1, 8);
            for (int a = 0; a < 6; a++) {
                d.step(3, a, a % 2 == 0 ? -1 : 65536, 2);
                dueBehind(d, "header " + a + " where " + h + " is VALID", a != h);
            }
            check.due("header -1", d.step(3, -1, 0, 2), -1);
            check.due("header 6", d.step(3, 6, 0, 2), -1);
        }
    }

    private static void unlessBelow() {
        check.part("STEP 4: unless field a is below field b");
        int[][] rows = {{0, 0}, {0, 1}, {1, 0}, {65534, 65535}, {65535, 65534}, {65535, 65535}, {32767, 32768}, {32768, 32767}};
        for (int[] row : rows) {
            SwitchDesk d = new SwitchDesk();
            d.width(0, 16);
            d.width(1, 16);
            d.state(0, 0, -1, 8);
            Desks.type(d, row[0] >> 8, row[0], row[1] >> 8, row[1]);
            d.step(4, 0, 1, 2);
            dueBehind(d, row[0] + " and " + row[1], row[0] >= row[1]);
        }
        SwitchDesk d = new SwitchDesk();
        d.step(4, 27, 24, 2);
        dueBehind(d, "field 27 is below the port", false);
        d.step(4, 24, 27, 2);
        dueBehind(d, "the port is not below field 27", true);
        for (int f : new int[] {-1, 28}) {
            check.due("a " + f, d.step(4, f, 0, 2), -1);
            check.due("b " + f, d.step(4, 0, f, 2), -1);
        }
    }

    private static void atTheGoal() {
        check.part("STEP 5: at the goal (a and b not looked at)");
        int[] any = {0, -1, 28, 65536, Integer.MIN_VALUE, Integer.MAX_VALUE};
        SwitchDesk d = new SwitchDesk();
        for (int v : any) {
            check.due("step", d.step(5, v, ~v, 2), 0);
            dueBehind(d, "a " + v, true);
        }
        check.due("what -1", d.step(-1, 0, 0, 16), -1);
        check.due("what 6", d.step(6, 0, 0, 16), -1);
    }
}
