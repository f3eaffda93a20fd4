/** Promises 1 to 13: a new object, and what is set from outside. */
public final class SettingTest {
    private static final Check check = new Check();

    private SettingTest() {
    }

    public static void main(String[] args) {
        newObject();
        newObjectAtWork();
        width();
        state();
        branch();
        operation();
        keys();
        entry();
        match();
        erase();
        step();
        order();
        clear();
        type();
        check.finish();
    }

    private static void newObject() {
        check.part("1 a new object");
        SwitchDesk d = new SwitchDesk();
        for (int f = 0; f < 28; f++) check.due("field " + f, d.field(f), 0);
        for (int w = 0; w < 9; w++) check.due("last " + w, d.last(w), 0);
        check.due("out(-1)", d.out(-1), -1);
        check.due("out(0)", d.out(0), -1);
        check.due("got(0)", d.got(0), -1);
        for (int t = 0; t < 4; t++) {
            check.due("taken default", d.taken(t, -1), 0);
            for (int e = 0; e < 12; e++) check.due("taken", d.taken(t, e), -1);
        }
        for (int x = 0; x < 8; x++) check.due("register", d.register(x, false, 5), 0);
        for (int r = 0; r < 3; r++) check.due("count", d.count(r), 0);
        for (int p = 0; p < 4; p++) {
            for (int w = 0; w < 7; w++) check.due("port", d.port(p, w), 0);
            check.due("turn", d.port(p, 7), 2);
            check.due("tokens", d.tokens(p), 0);
            check.due("fetch", d.fetch(p), -1);
        }
        check.due("ticks", d.tick(0), 0);
        for (int a = 0; a < 8; a++) check.due("operations", d.clear(0, a), 0);
        for (int w = 1; w < 4; w++) check.due("clear", d.clear(w, 0), 0);
    }

    private static void newObjectAtWork() {
        check.part("1 a new object at work");
        SwitchDesk d = new SwitchDesk();
        check.due("send of nothing", d.send(9), SwitchDesk.OUT);
        check.due("bytes", d.out(-1), 0);
        check.due("parsed", d.last(6), 1);
        check.due("states", d.last(7), 1);
        check.due("steps", d.last(8), 0);
        check.due("queued at port 0", d.port(0, 0), 1);
        for (int s = 0; s < 8; s++) {
            d = new SwitchDesk();
            d.state(0, -1, -1, s);
            check.due("default goals accept", d.send(0), s == 0 ? SwitchDesk.REJECTED : SwitchDesk.OUT);
        }
        for (int f = 0; f < 28; f++) {
            check.due("width at first", Desks.after(new SwitchDesk(), 0, f, 65535), f < 24 ? 0 : 65535);
        }
        for (int t = 0; t < 4; t++) {
            d = new SwitchDesk();
            d.operation(0, 1, 26, 0);
            d.operation(0, 1, 27, 1);
            d.operation(0, 0, 25, 77);
            d.operation(1, 0, 27, 5);
            d.step(0, t, 0, 1);
            d.send(0);
            check.due("default is action 0", d.field(25), 77);
            check.due("default's parameter 0", d.field(26), 0);
            check.due("default's parameter 1", d.field(27), 0);
            d.entry(t, 3, 0, 1, 0, 0);
            check.no("no second key at first", d.match(t, 3, 1, 0, 0));
            check.yes("key of field 24", d.match(t, 3, 0, 300, 0));
            d.send(300);
            check.due("the key is field 24, exact", d.field(27), 5);
            d.send(301);
            check.due("other port", d.field(27), 0);
        }
        for (int g = 4; g < 8; g++) {
            d = Desks.routing();
            check.due("group is empty", Desks.route(d, g, 0, 1), SwitchDesk.OUT);
            for (int p = 0; p < 4; p++) check.due("nobody has it", d.port(p, 0), 0);
        }
        check.due("a meter has no tokens", afterOneByte(14, 24, 2), 1);
        d = new SwitchDesk();
        check.due("a case of a new state", d.branch(0, 0, 0, 9), 1);
        check.due("which looks at nothing", d.send(0), SwitchDesk.OUT);
    }

    private static int afterOneByte(int what, int f, int x) {
        SwitchDesk d = new SwitchDesk();
        d.type(1);
        return Desks.after(d, what, f, x);
    }

    private static void width() {
        check.part("2 width");
        SwitchDesk d = new SwitchDesk();
        for (int f = 0; f < 24; f++) check.yes("width", d.width(f, 16));
        for (int f = 0; f < 24; f++) check.due("of 16 bits", Desks.after(d, 0, f, 65535), 65535);
        for (int w = 16; w >= 0; w--) {
            check.yes("narrower", d.width(23, w));
            check.due("its number is cut", d.field(23), (1 << w) - 1);
        }
        check.yes("wider again", d.width(23, 16));
        check.due("what was cut stays away", d.field(23), 0);
        d = new SwitchDesk();
        d.width(5, 7);
        Desks.after(d, 0, 5, 85);
        for (int w : Desks.wrongFor(0, 16)) check.no("width " + w, d.width(5, w));
        for (int f : Desks.wrongFor(0, 23)) check.no("field " + f, d.width(f, 3));
        for (int f = 24; f < 28; f++) check.no("metadata", d.width(f, 3));
        check.due("nothing changed", d.field(5), 85);
        check.due("width stayed", Desks.after(d, 0, 5, 65535), 127);
        check.due("metadata stayed", Desks.after(d, 0, 24, 65535), 65535);
    }

    private static void state() {
        check.part("3 state");
        SwitchDesk d = new SwitchDesk();
        for (int s = 0; s < 8; s++) check.yes("state", d.state(s, 5, 27, 9));
        for (int h = -1; h < 6; h++) check.yes("header", d.state(0, h, -1, 8));
        for (int f = -1; f < 28; f++) check.yes("field", d.state(0, -1, f, 8));
        for (int g = 0; g < 10; g++) check.yes("goal", d.state(0, -1, -1, g));
        d = Desks.withHeader(1);
        d.state(0, 1, 4, 8);
        d.branch(0, 7, 255, 9);
        for (int s : Desks.wrongFor(0, 7)) check.no("state " + s, d.state(s, 0, 0, 9));
        for (int h : Desks.wrongFor(-1, 5)) check.no("header " + h, d.state(0, h, 0, 9));
        for (int f : Desks.wrongFor(-1, 27)) check.no("field " + f, d.state(0, 0, f, 9));
        for (int g : Desks.wrongFor(0, 9)) check.no("goal " + g, d.state(0, 0, 0, g));
        Desks.type(d, 1, 2);
        check.due("nothing changed", d.send(0), SwitchDesk.OUT);
        check.due("header 1 is taken out", d.last(1), 1);
        check.due("not header 0", d.last(0), 0);
        Desks.type(d, 7, 2);
        check.due("the case is still there", d.send(0), SwitchDesk.REJECTED);
        check.yes("set anew", d.state(0, 1, 4, 8));
        check.due("no cases any more", d.send(0), SwitchDesk.OUT);
        check.due("the first case", d.branch(0, 0, 0, 9), 1);
        parserWalks();
        parserLimits();
    }

    private static void parserWalks() {
        check.part("3 state, parsing");
        SwitchDesk d = new SwitchDesk();
        d.width(0, 4);
        d.width(1, 0);
        d.width(2, 11);
        d.width(3, 1);
        d.width(20, 5);
        d.state(0, 0, 0, 3);
        d.state(3, 5, -1, 8);
        Desks.type(d, 0xA5, 0xC3, 0x99);
        check.due("two headers", d.send(0), SwitchDesk.OUT);
        check.due("the first four bits", d.field(0), 0xA);
        check.due("no bits", d.field(1), 0);
        check.due("eleven bits", d.field(2), 0x5C3 >> 1);
        check.due("one bit", d.field(3), 1);
        check.due("five bits of the third byte", d.field(20), 0x99 >> 3);
        check.due("valid 0", d.last(0), 1);
        check.due("valid 1", d.last(1), 0);
        check.due("valid 5", d.last(5), 1);
        check.due("two states", d.last(7), 2);
        check.due("three bits are left", d.out(-1), 1);
        check.due("and zeros", d.out(0), 0x20);
        d.state(3, 0, -1, 9);
        Desks.type(d, 0xA5, 0xC3, 0x12, 0x34);
        check.due("taken out again, goal REJECT", d.send(0), SwitchDesk.REJECTED);
        check.due("the later bits", d.field(0), 1);
        check.due("valid still", d.last(0), 1);
        Desks.type(d, 0xA5, 0xC3, 0x12);
        check.due("not so many bits", d.send(0), SwitchDesk.REJECTED);
        check.due("the earlier bits stay", d.field(0), 0xA);
        check.due("valid from the first time", d.last(0), 1);
        check.due("two states begun", d.last(7), 2);
        Desks.type(d, 0xA5);
        check.due("not even for the first", d.send(0), SwitchDesk.REJECTED);
        check.due("not valid", d.last(0), 0);
        check.due("all fields 0", d.field(0), 0);
        check.due("one state begun", d.last(7), 1);
        d.width(3, 0);
        d.width(2, 5);
        d.state(0, 0, -1, 8);
        check.due("nine bits of eight", d.send(0), SwitchDesk.REJECTED);
        d.width(2, 4);
        check.due("eight bits of eight", d.send(0), SwitchDesk.OUT);
    }

    private static void parserLimits() {
        check.part("3 state, twelve states");
        SwitchDesk d = new SwitchDesk();
        d.width(0, 8);
        d.state(0, 0, 0, 0);
        d.branch(0, 1, 255, 8);
        Desks.type(d, 0, 0, 0, 0, 0, 0, 0, 0, 0, 0, 0, 1);
        check.due("the twelfth accepts", d.send(0), SwitchDesk.OUT);
        check.due("twelve begun", d.last(7), 12);
        Desks.type(d, 0, 0, 0, 0, 0, 0, 0, 0, 0, 0, 0, 0, 1);
        check.due("a thirteenth is not begun", d.send(0), SwitchDesk.REJECTED);
        check.due("twelve begun still", d.last(7), 12);
        check.due("the last field is of the twelfth", d.field(0), 0);
        d = new SwitchDesk();
        d.state(0, 2, -1, 8);
        check.due("a header without bits", d.send(0), SwitchDesk.OUT);
        check.due("is valid", d.last(2), 1);
    }

    private static void branch() {
        check.part("4 branch");
        SwitchDesk d = Desks.withHeader(0);
        d.state(0, 0, 0, 9);
        check.due("first", d.branch(0, 0x41, 0xF1, 8), 1);
        check.due("second", d.branch(0, 0x40, 0xF0, 9), 2);
        for (int s : Desks.wrongFor(0, 7)) check.due("state", d.branch(s, 0, 0, 8), -1);
        for (int v : Desks.wrongFor(0, 65535)) check.due("value", d.branch(0, v, 0, 8), -1);
        for (int m : Desks.wrongFor(0, 65535)) check.due("mask", d.branch(0, 0, m, 8), -1);
        for (int g : Desks.wrongFor(0, 9)) check.due("goal", d.branch(0, 0, 0, g), -1);
        check.due("third", d.branch(0, 65535, 0x8000 | 0x80, 8), 3);
        check.due("a fourth is refused", d.branch(0, 0, 0, 8), -1);
        Desks.type(d, 0x4F, 0);
        check.due("the first case fits", d.send(0), SwitchDesk.OUT);
        Desks.type(d, 0x4E, 0);
        check.due("the second case fits", d.send(0), SwitchDesk.REJECTED);
        Desks.type(d, 0x80, 0);
        check.due("a mask above the width", d.send(0), SwitchDesk.REJECTED);
        d.state(0, 0, 0, 9);
        d.branch(0, 0x1FF, 0x80, 8);
        check.due("only where the mask has ones", d.send(0), SwitchDesk.OUT);
        Desks.type(d, 0x7F, 0);
        check.due("the default else", d.send(0), SwitchDesk.REJECTED);
        d.state(0, 0, -1, 9);
        check.due("a case without a field", d.branch(0, 0, 0, 8), 1);
        check.due("looks at none: the default", d.send(0), SwitchDesk.REJECTED);
        d.state(0, -1, 24, 9);
        check.due("goal 9 and all ones", d.branch(0, 65535, 65535, 8), 1);
        check.due("metadata is looked at", d.send(65535), SwitchDesk.OUT);
        check.due("another port", d.send(65534), SwitchDesk.REJECTED);
        d.state(0, -1, 24, 9);
        d.branch(0, 5, 65535, 7);
        d.state(7, 0, -1, 8);
        check.due("goes to state 7", d.send(5), SwitchDesk.OUT);
        check.due("which takes header 0 out", d.field(0), 0x7F);
        for (int s = 1; s < 8; s++) check.due("each state has its own", d.branch(s, 0, 0, 0), 1);
        allCases();
    }

    /** State s goes to state s + 1 by its first, second or third CASE, as port 1, 2 or 3 tells. */
    private static void allCases() {
        check.part("4 branch, all cases of all states");
        SwitchDesk d = new SwitchDesk();
        for (int s = 7; s >= 0; s--) {
            d.state(s, -1, 24, 9);
            for (int c = 1; c < 4; c++) check.due("case", d.branch(s, c, 65535, s + 1), c);
        }
        for (int p = 0; p < 5; p++) {
            check.due("port " + p, d.send(p), p == 0 || p == 4 ? SwitchDesk.REJECTED : SwitchDesk.OUT);
            check.due("states begun", d.last(7), p == 0 || p == 4 ? 1 : 8);
        }
    }

    private static void operation() {
        check.part("5 operation");
        int[] highestF = {27, 27, 27, 27, 27, 27, 5, 5, -1, -1, 27, 27, 27, 27, 27};
        int[] highestX = {65535, 1, 27, 27, 27, 27, -1, -1, -1, -1, 5, 7, 7, 7, 3};
        for (int what = 0; what < 15; what++) {
            SwitchDesk d = new SwitchDesk();
            int topF = highestF[what], topX = highestX[what];
            check.due("lowest " + what, d.operation(1, what, 0, 0), 1);
            check.due("highest " + what, d.operation(1, what, topF, topX), 2);
            for (int f : Desks.wrongFor(0, topF == -1 ? 0 : topF)) {
                check.due("f of " + what, d.operation(2, what, f, 0) == -1 ? 0 : 1, topF == -1 ? 1 : 0);
                d.clear(0, 2);
            }
            for (int x : Desks.wrongFor(0, topX == -1 ? 0 : topX)) {
                check.due("x of " + what, d.operation(2, what, 0, x) == -1 ? 0 : 1, topX == -1 ? 1 : 0);
                d.clear(0, 2);
            }
            check.due("two were taken", d.clear(0, 1), 2);
        }
        SwitchDesk d = new SwitchDesk();
        for (int what : Desks.wrongFor(0, 14)) check.due("what", d.operation(0, what, 0, 0), -1);
        for (int a : Desks.wrongFor(0, 7)) check.due("action", d.operation(a, 0, 0, 0), -1);
        for (int a = 0; a < 8; a++) {
            for (int i = 1; i < 6; i++) check.due("how many", d.operation(a, 0, 26, i), i);
            check.due("a sixth is refused", d.operation(a, 0, 26, 6), -1);
        }
        d.step(1, 6, 0, 0);
        d.send(0);
        check.due("done in order, without the refused", d.field(26), 5);
    }

    private static void keys() {
        check.part("6 keys");
        SwitchDesk d = new SwitchDesk();
        d.operation(1, 0, 27, 1);
        d.step(0, 2, 0, 1);
        d.entry(2, 0, 0, 1, 0, 0);
        d.entry(2, 11, 0, 1, 0, 0);
        d.entry(1, 5, 0, 1, 0, 0);
        for (int t : Desks.wrongFor(0, 3)) check.no("table", d.keys(t, 0, 0, 0, 0));
        for (int f : Desks.wrongFor(0, 27)) check.no("first field", d.keys(2, f, 0, 0, 0));
        for (int k : Desks.wrongFor(0, 2)) check.no("first kind", d.keys(2, 0, k, 0, 0));
        for (int g : Desks.wrongFor(-1, 27)) check.no("second field", d.keys(2, 0, 0, g, 0));
        for (int k : Desks.wrongFor(0, 2)) check.no("second kind", d.keys(2, 0, 0, 0, k));
        d.send(0);
        check.due("nothing changed", d.taken(2, 0), 1);
        d.send(1);
        check.due("field 24 still", d.taken(2, -1), 1);
        check.yes("keys", d.keys(2, 24, 0, 25, 0));
        check.due("entry 0 is gone", d.taken(2, 0), -1);
        check.due("entry 11 is gone", d.taken(2, 11), -1);
        check.due("the default's count stays", d.taken(2, -1), 1);
        check.due("another table's entry stays", d.taken(1, 5), 0);
        d.send(0);
        check.due("no entry fits", d.taken(2, -1), 2);
        for (int f = 0; f < 28; f++) check.yes("each field", d.keys(3, f, f % 3, 27 - f, (f + 1) % 3));
        for (int k : Desks.wrongFor(0, 2)) check.yes("kind of none", d.keys(3, 27, 2, -1, k));
        d.entry(3, 0, 0, 0, 0, 0);
        check.no("only one key", d.match(3, 0, 1, 0, 0));
        check.yes("which is masked", d.match(3, 0, 0, 0, 17));
    }

    private static void entry() {
        check.part("7 entry");
        SwitchDesk d = new SwitchDesk();
        d.operation(2, 1, 26, 0);
        d.operation(2, 1, 27, 1);
        d.operation(3, 0, 25, 9);
        d.step(0, 1, 0, 1);
        check.yes("lowest", d.entry(0, 0, 0, 0, 0, 0));
        check.yes("highest", d.entry(3, 11, 15, 7, 65535, 65535));
        check.yes("entry", d.entry(1, 4, 3, 2, 111, 222));
        check.due("never chosen", d.taken(1, 4), 0);
        for (int t : Desks.wrongFor(0, 3)) check.no("table", d.entry(t, 4, 3, 3, 1, 1));
        for (int e : Desks.wrongFor(-1, 11)) check.no("entry", d.entry(1, e, 3, 3, 1, 1));
        for (int r : Desks.wrongFor(0, 15)) check.no("rank", d.entry(1, 4, r, 3, 1, 1));
        for (int a : Desks.wrongFor(0, 7)) check.no("action", d.entry(1, 4, 3, a, 1, 1));
        for (int p : Desks.wrongFor(0, 65535)) check.no("first", d.entry(1, 4, 3, 3, p, 1));
        for (int q : Desks.wrongFor(0, 65535)) check.no("second", d.entry(1, 4, 3, 3, 1, q));
        for (int a : Desks.wrongFor(0, 7)) check.no("default's action", d.entry(1, -1, 3, a, 1, 1));
        d.send(0);
        check.due("its action, parameter 0", d.field(26), 111);
        check.due("parameter 1", d.field(27), 222);
        check.due("chosen once", d.taken(1, 4), 1);
        d.match(1, 4, 0, 8, 0);
        check.yes("set anew", d.entry(1, 4, 3, 2, 111, 222));
        check.due("never chosen again", d.taken(1, 4), 0);
        d.send(8);
        check.due("its value is 0 again", d.taken(1, 4), 0);
        check.due("the default", d.taken(1, -1), 1);
        for (int r : Desks.wrongFor(0, 15)) check.yes("default's rank", d.entry(1, -1, r, 2, 65535, 4));
        check.due("the default's count stays", d.taken(1, -1), 1);
        d.send(8);
        check.due("the default's first", d.field(26), 65535);
        check.due("the default's second", d.field(27), 4);
        check.due("default twice", d.taken(1, -1), 2);
        d.entry(1, 5, 0, 0, 0, 0);
        d.match(1, 5, 0, 8, 0);
        d.entry(1, 4, 0, 0, 0, 0);
        d.entry(1, 6, 0, 0, 0, 0);
        d.send(8);
        check.due("entries beside it stay as they are", d.taken(1, 5), 1);
        newMasksAreZero();
        choosing();
    }

    private static void newMasksAreZero() {
        check.part("7 entry, masks 0");
        for (int kind = 0; kind < 3; kind++) {
            SwitchDesk d = new SwitchDesk();
            d.keys(0, 24, kind, 24, kind);
            d.step(0, 0, 0, 1);
            for (int again = 0; again < 2; again++) {
                d.entry(0, 1, 0, 0, 0, 0);
                d.send(1);
                check.due("fits port 1, kind " + kind, d.taken(0, 1), kind == 0 ? 0 : 1);
                d.send(0);
                check.due("fits port 0, kind " + kind, d.taken(0, 1), kind == 0 ? 1 : 2);
                d.match(0, 1, 0, 5, 16);
                d.match(0, 1, 1, 5, 16);
            }
        }
    }

    private static void choosing() {
        check.part("7 entry, the chosen one");
        SwitchDesk d = new SwitchDesk();
        d.keys(0, 24, 1, 24, 1);
        d.step(0, 0, 0, 1);
        d.entry(0, 2, 5, 0, 0, 0);
        d.entry(0, 6, 5, 0, 0, 0);
        d.send(7);
        check.due("the least number", d.taken(0, 2), 1);
        d.match(0, 6, 1, 0, 1);
        d.send(7);
        check.due("the longer prefix", d.taken(0, 6), 1);
        d.match(0, 2, 0, 0, 2);
        d.send(7);
        check.due("a prefix of the other key", d.taken(0, 2), 2);
        d.match(0, 6, 0, 0, 1);
        d.match(0, 2, 0, 0, 1);
        d.match(0, 2, 1, 0, 0);
        d.send(7);
        check.due("both prefixes together", d.taken(0, 6), 2);
        d.entry(0, 9, 6, 0, 0, 0);
        d.send(7);
        check.due("the greatest rank", d.taken(0, 9), 1);
        d.match(0, 9, 0, 0x8000, 1);
        d.send(7);
        check.due("but only if it fits", d.taken(0, 6), 3);
        d.keys(0, 24, 2, 24, 1);
        d.entry(0, 1, 0, 0, 0, 0);
        d.entry(0, 2, 0, 0, 0, 0);
        d.match(0, 2, 0, 7, 65535);
        d.send(7);
        check.due("ones of masks do not count", d.taken(0, 1), 1);
        d.keys(0, 24, 0, 24, 1);
        d.entry(0, 1, 15, 0, 0, 0);
        d.entry(0, 2, 15, 0, 0, 0);
        d.match(0, 1, 0, 7, 0);
        d.match(0, 2, 0, 7, 0);
        d.match(0, 2, 1, 0, 13);
        d.send(7);
        check.due("nor the mask of an exact key", d.taken(0, 2), 1);
    }

    private static void match() {
        check.part("8 match");
        SwitchDesk d = new SwitchDesk();
        d.step(0, 3, 0, 1);
        check.no("no entry", d.match(3, 0, 0, 0, 0));
        d.entry(3, 0, 0, 0, 0, 0);
        d.entry(3, -1, 0, 0, 0, 0);
        for (int t : Desks.wrongFor(0, 3)) check.no("table", d.match(t, 0, 0, 5, 0));
        for (int e : Desks.wrongFor(0, 11)) check.no("entry", d.match(3, e, 0, 5, 0));
        for (int k : Desks.wrongFor(0, 1)) check.no("key", d.match(3, 0, k, 5, 0));
        for (int v : Desks.wrongFor(0, 65535)) check.no("value", d.match(3, 0, 0, v, 0));
        check.no("no second key", d.match(3, 0, 1, 5, 0));
        check.no("entry 1 is not there", d.match(3, 1, 0, 5, 0));
        d.send(0);
        check.due("nothing changed", d.taken(3, 0), 1);
        check.yes("exact", d.match(3, 0, 0, 65535, -7));
        d.send(65535);
        check.due("exact fits", d.taken(3, 0), 2);
        d.send(65534);
        check.due("exact fits no other", d.taken(3, 0), 2);
        matchPrefix();
        matchMasked();
        matchTwoKeys();
    }

    private static void matchPrefix() {
        check.part("8 match, a prefix");
        SwitchDesk d = Desks.withHeader(0);
        d.width(0, 6);
        d.width(1, 2);
        d.keys(0, 0, 1, -1, 0);
        d.step(0, 0, 0, 1);
        d.entry(0, 0, 0, 0, 0, 0);
        for (int n : Desks.wrongFor(0, 16)) check.no("n", d.match(0, 0, 0, 0, n));
        for (int n = 0; n < 17; n++) check.yes("n", d.match(0, 0, 0, 0, n));
        check.yes("the highest three of six bits", d.match(0, 0, 0, 0xFF00 | 0x2C, 3));
        Desks.type(d, 0x2B << 2);
        d.send(0);
        check.due("fits", d.taken(0, 0), 1);
        Desks.type(d, 0x24 << 2);
        d.send(0);
        check.due("differs in the third", d.taken(0, 0), 1);
        check.yes("more than all", d.match(0, 0, 0, 0x24, 16));
        d.send(0);
        check.due("all of it", d.taken(0, 0), 2);
        Desks.type(d, 0x25 << 2);
        d.send(0);
        check.due("differs in the last", d.taken(0, 0), 2);
        d.width(0, 8);
        d.width(1, 0);
        d.match(0, 0, 0, 0x94, 4);
        d.send(0);
        check.due("the width of now", d.taken(0, 0), 3);
        d.width(0, 4);
        d.width(1, 4);
        d.match(0, 0, 0, 0xF9, 7);
        d.send(0);
        check.due("n above the width", d.taken(0, 0), 4);
        d.match(0, 0, 0, 0xF9, 3);
        d.width(0, 3);
        d.width(1, 5);
        d.send(0);
        check.due("made for the width of now", d.taken(0, 0), 4);
        d.entry(0, 1, 0, 0, 0, 0);
        d.match(0, 1, 0, 4, 3);
        d.entry(0, 2, 0, 0, 0, 0);
        d.match(0, 2, 0, 4, 9);
        d.send(0);
        check.due("ones are of the mask, not n", d.taken(0, 1), 1);
        d.width(0, 0);
        d.match(0, 0, 0, 7, 16);
        d.send(0);
        check.due("no width, no mask", d.taken(0, 0), 5);
    }

    private static void matchMasked() {
        check.part("8 match, a mask");
        SwitchDesk d = new SwitchDesk();
        d.keys(0, 24, 2, -1, 0);
        d.step(0, 0, 0, 1);
        d.entry(0, 0, 0, 0, 0, 0);
        for (int m : Desks.wrongFor(0, 65535)) check.no("mask", d.match(0, 0, 0, 0, m));
        check.yes("mask", d.match(0, 0, 0, 0xFFFF, 0x8001));
        d.send(0x8001);
        check.due("fits", d.taken(0, 0), 1);
        d.send(0x8FF1);
        check.due("fits also", d.taken(0, 0), 2);
        d.send(0x8FF0);
        check.due("the last bit", d.taken(0, 0), 2);
        d.send(0x0FF1);
        check.due("the first bit", d.taken(0, 0), 2);
        check.yes("all ones", d.match(0, 0, 0, 3, 65535));
        d.send(3);
        check.due("fits exactly", d.taken(0, 0), 3);
    }

    private static void matchTwoKeys() {
        check.part("8 match, two keys");
        SwitchDesk d = Desks.withHeader(2);
        d.keys(0, 8, 0, 9, 2);
        d.step(0, 0, 0, 1);
        d.entry(0, 7, 0, 0, 0, 0);
        check.yes("first", d.match(0, 7, 0, 5, 99999));
        check.yes("second", d.match(0, 7, 1, 6, 0x0F));
        int[][] packets = {{5, 6}, {5, 0xF6}, {4, 6}, {5, 7}, {0, 0}};
        int[] due = {1, 2, 2, 2, 2};
        for (int i = 0; i < packets.length; i++) {
            Desks.type(d, packets[i]);
            d.send(0);
            check.due("packet " + i, d.taken(0, 7), due[i]);
        }
        d.match(0, 7, 0, 0x105, 0);
        Desks.type(d, 5, 6);
        d.send(0);
        check.due("a value above the width never fits", d.taken(0, 7), 2);
    }

    private static void erase() {
        check.part("9 erase");
        SwitchDesk d = new SwitchDesk();
        d.step(0, 0, 0, 1);
        check.no("none there", d.erase(0, 0));
        d.entry(0, 0, 0, 0, 0, 0);
        d.entry(0, 11, 0, 0, 0, 0);
        d.entry(3, 0, 0, 0, 0, 0);
        for (int t : Desks.wrongFor(0, 3)) check.no("table", d.erase(t, 0));
        for (int e : Desks.wrongFor(0, 11)) check.no("entry", d.erase(0, e));
        d.send(0);
        check.due("chosen", d.taken(0, 0), 1);
        check.yes("erased", d.erase(0, 0));
        check.no("only once", d.erase(0, 0));
        check.due("not there", d.taken(0, 0), -1);
        check.no("no match", d.match(0, 0, 0, 0, 0));
        d.send(0);
        check.due("the next one", d.taken(0, 11), 1);
        check.yes("erased", d.erase(0, 11));
        d.send(0);
        check.due("the default", d.taken(0, -1), 1);
        check.yes("another table's", d.erase(3, 0));
        check.yes("there again", d.entry(0, 0, 0, 0, 0, 0));
        check.due("as new", d.taken(0, 0), 0);
    }

    private static void step() {
        check.part("10 step");
        int[] highestA = {3, 7, 27, 5, 27, -1};
        int[] highestB = {-1, 65535, 65535, -1, 27, -1};
        for (int what = 0; what < 6; what++) {
            SwitchDesk d = new SwitchDesk();
            int topA = highestA[what], topB = highestB[what];
            check.due("lowest", d.step(what, 0, 0, 1), 0);
            check.due("highest", d.step(what, topA, topB, 16), 1);
            int number = 2;
            for (int a : Desks.wrongFor(0, topA == -1 ? 0 : topA)) {
                check.due("a of " + what, d.step(what, a, 0, 16), topA == -1 ? number++ : -1);
            }
            for (int b : Desks.wrongFor(0, topB == -1 ? 0 : topB)) {
                check.due("b of " + what, d.step(what, 0, b, 16), topB == -1 ? number++ : -1);
            }
            d.clear(1, 0);
            d.step(5, 0, 0, 1);
            number = 1;
            for (int goal : Desks.wrongFor(2, 16)) {
                check.due("goal of " + what, d.step(what, 0, 0, goal), what == 1 ? number++ : -1);
            }
        }
        SwitchDesk d = new SwitchDesk();
        for (int what : Desks.wrongFor(0, 5)) check.due("what", d.step(what, 0, 0, 16), -1);
        for (int n = 0; n < 16; n++) {
            check.due("own number is no goal", d.step(5, 0, 0, n), -1);
            check.due("number", d.step(5, 0, 0, n + 1), n);
        }
        check.due("a seventeenth is refused", d.step(1, 0, 0, 16), -1);
        check.due("sixteen", d.clear(1, 0), 16);
        stepsAtWork();
    }

    /** What METADATA 27 is after a first step, behind which a step adds 1, and one at the goal 10. */
    private static int trace(SwitchDesk d, int what, int a, int b) {
        d.clear(1, 0);
        d.clear(0, 1);
        d.clear(0, 2);
        d.operation(1, 1, 26, 0);
        d.operation(1, 3, 27, 26);
        d.step(what, a, b, 2);
        d.step(1, 1, 1, -5);
        d.step(1, 1, 10, -5);
        d.send(4);
        return d.field(27);
    }

    private static void stepsAtWork() {
        check.part("10 step, doing them");
        SwitchDesk d = Desks.withHeader(0);
        d.keys(0, 24, 0, -1, 0);
        d.operation(5, 1, 27, 0);
        d.operation(5, 1, 25, 1);
        Desks.type(d, 8, 9);
        d.entry(0, -1, 0, 5, 300, 301);
        check.due("no entry: the default, and on at the goal", trace(d, 0, 0, 0), 310);
        check.due("its second parameter", d.field(25), 301);
        check.due("two steps", d.last(8), 2);
        d.entry(0, 0, 0, 5, 500, 501);
        d.match(0, 0, 0, 4, 0);
        check.due("an entry: goes on behind", trace(d, 0, 0, 0), 511);
        check.due("its second parameter", d.field(25), 501);
        check.due("three steps", d.last(8), 3);
        d.operation(4, 0, 25, 3);
        d.operation(4, 1, 25, 1);
        d.operation(4, 1, 27, 0);
        check.due("an action with a parameter", trace(d, 1, 4, 65535), (65535 + 11) % 65536);
        check.due("the second parameter is 0", d.field(25), 0);
        check.due("field is b", trace(d, 2, 0, 8), 11);
        check.due("field is not b", trace(d, 2, 0, 9), 10);
        check.due("valid", trace(d, 3, 0, -1), 11);
        check.due("not valid", trace(d, 3, 1, -1), 10);
        check.due("below", trace(d, 4, 0, 1), 11);
        check.due("above", trace(d, 4, 1, 0), 10);
        check.due("alike is not below", trace(d, 4, 1, 1), 10);
        check.due("always", trace(d, 5, 99, -99), 10);
        d.clear(1, 0);
        d.step(5, 0, 0, 16);
        d.step(1, 1, 1, 0);
        d.send(0);
        check.due("behind all", d.field(27), 0);
        check.due("one step", d.last(8), 1);
    }

    private static void order() {
        check.part("11 order");
        SwitchDesk d = new SwitchDesk();
        for (int h : Desks.wrongFor(0, 5)) check.due("no header", d.order(h), -1);
        for (int h = 0; h < 6; h++) check.due("how many", d.order(h), h + 1);
        check.due("a seventh is refused", d.order(0), -1);
        check.due("six", d.clear(2, 0), 6);
        d.width(0, 8);
        d.width(21, 8);
        d.state(0, 0, -1, 1);
        d.state(1, 5, -1, 8);
        Desks.type(d, 1, 2, 3);
        d.send(0);
        check.due("an empty one: only the rest", d.out(-1), 1);
        check.due("the rest", d.out(0), 3);
        d.order(5);
        d.order(1);
        d.order(0);
        check.due("twice", d.order(5), 4);
        d.send(0);
        int[] due = {2, 1, 2, 3};
        check.due("bytes", d.out(-1), 4);
        for (int k = 0; k < 4; k++) check.due("byte " + k, d.out(k), due[k]);
    }

    private static void clear() {
        check.part("12 clear");
        SwitchDesk d = Desks.withHeader(0);
        for (int a = 0; a < 8; a++) for (int i = 0; i <= a % 5; i++) d.operation(a, 0, 27, 7);
        d.step(1, 7, 0, 0);
        d.step(1, 7, 0, 0);
        Desks.type(d, 1, 2, 3);
        for (int w : Desks.wrongFor(0, 3)) check.due("what", d.clear(w, 0), -1);
        for (int k : Desks.wrongFor(0, 7)) check.due("action", d.clear(0, k), -1);
        d.send(0);
        check.due("nothing changed", d.field(27), 7);
        for (int a = 0; a < 8; a++) {
            check.due("operations", d.clear(0, a), a % 5 + 1);
            check.due("are gone", d.clear(0, a), 0);
        }
        d.send(0);
        check.due("the action is empty", d.field(27), 0);
        check.due("two steps", d.last(8), 2);
        check.due("steps", d.clear(1, -9), 2);
        check.due("are gone", d.clear(1, 9), 0);
        d.send(0);
        check.due("no steps", d.last(8), 0);
        check.due("three bytes", d.out(-1), 3);
        check.due("order", d.clear(2, -9), 1);
        check.due("is gone", d.clear(2, 9), 0);
        d.send(0);
        check.due("only the rest", d.out(-1), 1);
        check.due("packet", d.clear(3, -9), 3);
        check.due("is gone", d.clear(3, 9), 0);
        check.due("what came out stays", d.out(0), 3);
        check.due("no bits", d.send(0), SwitchDesk.REJECTED);
        check.due("the first step again", d.step(1, 0, 0, 0), 0);
        check.due("the first operation again", d.operation(0, 8, 0, 0), 1);
    }

    private static void type() {
        check.part("13 type");
        SwitchDesk d = new SwitchDesk();
        int[] bytes = {0, 255, 256, -1, -2, 511, 128, 65407, Integer.MIN_VALUE, Integer.MAX_VALUE};
        int[] due = {0, 255, 0, 255, 254, 255, 128, 127, 0, 255};
        for (int i = 0; i < bytes.length; i++) check.due("how many", d.type(bytes[i]), i + 1);
        d.send(0);
        for (int i = 0; i < bytes.length; i++) check.due("its lowest 8 bits", d.out(i), due[i]);
        for (int i = bytes.length; i < 16; i++) check.due("how many", d.type(i), i + 1);
        check.due("a seventeenth is refused", d.type(0), -1);
        d.send(0);
        check.due("sixteen", d.out(-1), 16);
        check.due("the last", d.out(15), 15);
    }
}
