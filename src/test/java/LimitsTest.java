import java.util.ArrayList;
import java.util.List;

/**
 * Promises 2 to 26: of each number that a call takes, the last that is as said and the first that is
 * not, on both sides; and that a call that is refused, or that only tells something, changes nothing.
 */
public final class LimitsTest {
    private static final int NO = 0, REFUSED = -1;

    private static final Check check = new Check();
    private static final List<List<Integer>> busyViews = new ArrayList<>();
    private static final List<List<Integer>> fullViews = new ArrayList<>();

    private interface Call {
        int on(SwitchDesk d);
    }

    private interface CallOf {
        int on(SwitchDesk d, int number);
    }

    private LimitsTest() {
    }

    public static void main(String[] args) {
        for (int v = 0; v < Busy.VIEWS; v++) {
            busyViews.add(Busy.view(Busy.make(), v));
            fullViews.add(Busy.view(Busy.full(), v));
        }
        viewsShowChanges();
        width();
        state();
        branch();
        operation();
        operationNumbers();
        keys();
        entry();
        entryNumbersOfEach();
        match();
        matchMasks();
        erase();
        step();
        stepNumbers();
        order();
        clear();
        type();
        send();
        out();
        field();
        last();
        taken();
        register();
        count();
        setMeter();
        setGroup();
        setQuantum();
        tick();
        fetch();
        got();
        port();
        tokens();
        check.finish();
    }

    private static int bit(boolean answer) {
        return answer ? 1 : 0;
    }

    private static void unchanged(String name, Call call, int due) {
        for (int v = 0; v < Busy.VIEWS; v++) {
            SwitchDesk d = Busy.make();
            check.due(name, call.on(d), due);
            check.yes(name + " changed nothing, view " + v, Busy.view(d, v).equals(busyViews.get(v)));
        }
    }

    private static void unchangedWhenFull(String name, Call call, int due) {
        for (int v = 0; v < Busy.VIEWS; v++) {
            SwitchDesk d = Busy.full();
            check.due(name + ", full", call.on(d), due);
            check.yes(name + ", full, changed nothing, view " + v, Busy.view(d, v).equals(fullViews.get(v)));
        }
    }

    /** Numbers low..high are as said, and no others are: those are refused and change nothing. */
    private static void number(String name, int low, int high, int refusal, CallOf call) {
        for (int number : new int[] {low, high}) {
            check.no(name + " " + number + " is refused", call.on(Busy.make(), number) == refusal);
        }
        for (int number : Desks.wrongFor(low, high)) {
            unchanged(name + " " + number, d -> call.on(d, number), refusal);
        }
    }

    /** The same for a call that only tells something. */
    private static void telling(String name, int low, int high, CallOf call) {
        number(name, low, high, REFUSED, call);
        for (int number : new int[] {low, high}) {
            int due = call.on(Busy.make(), number);
            unchanged(name + " " + number, d -> call.on(d, number), due);
        }
    }

    private static void notLookedAt(String name, int refusal, CallOf call) {
        int[] any = {0, -1, -2, 6, 28, 65536, Integer.MIN_VALUE, Integer.MAX_VALUE};
        for (int number : any) {
            check.no(name + " " + number + " is refused", call.on(Busy.make(), number) == refusal);
        }
        List<List<Integer>> first = new ArrayList<>();
        for (int number : any) {
            for (int v = 0; v < Busy.VIEWS; v++) {
                SwitchDesk d = Busy.make();
                call.on(d, number);
                List<Integer> seen = Busy.view(d, v);
                if (number == 0) first.add(seen);
                check.yes(name + " " + number + " is not looked at, view " + v, seen.equals(first.get(v)));
            }
        }
    }

    private static void changes(String name, Call call) {
        boolean seen = false;
        for (int v = 0; v < Busy.VIEWS; v++) {
            SwitchDesk d = Busy.make();
            check.no(name + " is refused", call.on(d) == REFUSED);
            seen |= !Busy.view(d, v).equals(busyViews.get(v));
        }
        check.yes(name + " is seen", seen);
    }

    /** Without this, that nothing was seen to change would tell nothing. */
    private static void viewsShowChanges() {
        check.part("the views show changes");
        for (int i = 0; i < 24; i++) {
            int f = i;
            changes("width of " + f, d -> bit(d.width(f, f % 4 == 1 ? 4 : 2)));
        }
        for (int i = 0; i < 8; i++) {
            int n = i;
            changes("header of state " + n, d -> bit(d.state(n, n == 0 ? 1 : 0, n < 6 ? 4 * n : n == 6 ? -1 : 24, n % 2 == 0 ? 9 : n + 1)));
            changes("branch of " + n, d -> d.branch(n, 0, 0, 9));
            changes("operation of " + n, d -> d.operation(n, 0, 27, 5));
            changes("register " + n, d -> d.register(n, true, 5));
            changes("clear of action " + n, d -> d.clear(0, n));
        }
        int[][] entries = {{0, 0}, {0, 5}, {0, 11}, {1, 4}, {1, 6}, {2, 2}, {2, 3}, {3, 9}, {0, -1}, {1, -1}, {2, -1}, {3, -1}};
        for (int[] one : entries) {
            int t = one[0], e = one[1];
            if (e >= 0) changes("erase of entry " + e + " of " + t, d -> bit(d.erase(t, e)));
            if (e >= 0 && e != 6 && e != 2) changes("value of entry " + e + " of " + t, d -> bit(d.match(t, e, 0, 65535, 16)));
        }
        for (int i = 0; i < 4; i++) {
            int n = i;
            changes("keys of " + n, d -> bit(d.keys(n, 27, 1, -1, 0)));
            changes("meter " + n, d -> bit(d.set(0, n, 9, 500)));
            changes("group " + n, d -> bit(d.set(1, n, n == 0 ? 6 : 9, 0)));
            for (int q = 0; q < 3; q++) {
                int queue = q;
                if (q == n || n == 3 && q == 1) changes("quantum of " + n + ", " + q, d -> bit(d.set(2, n, queue, 31)));
            }
        }
        changes("step", d -> d.step(1, 0, 0, 0));
        changes("order", d -> d.order(0));
        changes("type", d -> d.type(0));
        changes("tick", d -> d.tick(1));
        changes("send", d -> d.send(0));
        changes("fetch", d -> d.fetch(1));
    }

    private static void width() {
        check.part("2: true; false, and nothing changes, if f is not 0..23 or w not 0..16");
        number("f", 0, 23, NO, (d, v) -> bit(d.width(v, 2)));
        for (int i = 0; i < 24; i += 23) {
            int f = i;
            number("w", 0, 16, NO, (d, v) -> bit(d.width(f, v)));
        }
        for (int i = 24; i < 28; i++) {
            int f = i;
            unchanged("METADATA " + f, d -> bit(d.width(f, 16)), NO);
            unchanged("METADATA " + f, d -> bit(d.width(f, 2)), NO);
        }
    }

    private static void state() {
        check.part("3: true; false, and nothing changes, if a number is not as said");
        number("s", 0, 7, NO, (d, v) -> bit(d.state(v, 1, 2, 3)));
        for (int i = 0; i < 8; i++) {
            int s = i;
            number("header of " + s, -1, 5, NO, (d, v) -> bit(d.state(s, v, 2, 3)));
            number("field of " + s, -1, 27, NO, (d, v) -> bit(d.state(s, 1, v, 3)));
            number("goal of " + s, 0, 9, NO, (d, v) -> bit(d.state(s, 1, 2, v)));
        }
    }

    private static void branch() {
        check.part("4: REFUSED if a number is not as said, or it has 3");
        number("s", 0, 7, REFUSED, (d, v) -> d.branch(v, 0, 0, 9));
        for (int i = 0; i < 8; i++) {
            int s = i;
            number("value of " + s, 0, 65535, REFUSED, (d, v) -> d.branch(s, v, 0, 9));
            number("mask of " + s, 0, 65535, REFUSED, (d, v) -> d.branch(s, 0, v, 9));
            number("goal of " + s, 0, 9, REFUSED, (d, v) -> d.branch(s, 0, 0, v));
            unchangedWhenFull("a fourth of " + s, d -> d.branch(s, 0, 0, 9), REFUSED);
        }
    }

    private static void operation() {
        check.part("5: REFUSED if a number is not as said, or it has 5");
        number("a", 0, 7, REFUSED, (d, v) -> d.operation(v, 0, 27, 1));
        number("what", 0, 14, REFUSED, (d, v) -> d.operation(7, v, 0, 0));
        for (int i = 0; i < 8; i++) {
            int a = i;
            unchangedWhenFull("a sixth of " + a, d -> d.operation(a, 8, 0, 0), REFUSED);
        }
    }

    private static void operationNumbers() {
        check.part("5: x of 0: 0..65535; f of 8 and 9, x of 6 to 9: not looked at");
        int[] highestF = {27, 27, 27, 27, 27, 27, 5, 5, -1, -1, 27, 27, 27, 27, 27};
        int[] highestX = {65535, 1, 27, 27, 27, 27, -1, -1, -1, -1, 5, 7, 7, 7, 3};
        for (int i = 0; i < 15; i++) {
            int what = i;
            if (highestF[i] < 0) notLookedAt("f of " + i, REFUSED, (d, v) -> d.operation(7, what, v, 0));
            else number("f of " + i, 0, highestF[i], REFUSED, (d, v) -> d.operation(7, what, v, 0));
            if (highestX[i] < 0) notLookedAt("x of " + i, REFUSED, (d, v) -> d.operation(7, what, 2, v));
            else number("x of " + i, 0, highestX[i], REFUSED, (d, v) -> d.operation(7, what, 2, v));
        }
    }

    private static void keys() {
        check.part("6: true; false, and nothing changes, if a number is not as said (kind of g -1: not looked at)");
        number("t", 0, 3, NO, (d, v) -> bit(d.keys(v, 1, 1, 2, 2)));
        for (int i = 0; i < 4; i++) {
            int t = i;
            number("f", 0, 27, NO, (d, v) -> bit(d.keys(t, v, 1, 2, 2)));
            number("kind", 0, 2, NO, (d, v) -> bit(d.keys(t, 1, v, 2, 2)));
            number("kind of the only one", 0, 2, NO, (d, v) -> bit(d.keys(t, 1, v, -1, 2)));
            number("g", -1, 27, NO, (d, v) -> bit(d.keys(t, 1, 1, v, 2)));
            number("second", 0, 2, NO, (d, v) -> bit(d.keys(t, 1, 1, 2, v)));
            notLookedAt("kind of g -1", NO, (d, v) -> bit(d.keys(t, 24, 0, -1, v)));
        }
    }

    private static void entry() {
        check.part("7: true; false, and nothing changes, if a number is not as said (-1: the DEFAULT, rank not looked at)");
        number("t", 0, 3, NO, (d, v) -> bit(d.entry(v, 5, 1, 1, 1, 1)));
        number("t of the DEFAULT", 0, 3, NO, (d, v) -> bit(d.entry(v, -1, 1, 1, 1, 1)));
        for (int i = 0; i < 4; i++) {
            int t = i;
            number("e", -1, 11, NO, (d, v) -> bit(d.entry(t, v, 1, 1, 1, 1)));
            notLookedAt("rank of the DEFAULT", NO, (d, v) -> bit(d.entry(t, -1, v, 6, 1, 2)));
        }
    }

    private static void entryNumbersOfEach() {
        check.part("7: false, and nothing changes, if a number is not as said, of an ENTRY that is there and one that is not");
        int[][] entries = {{0, 0}, {0, 11}, {1, 4}, {2, 3}, {3, 9}, {3, 8}, {0, -1}, {1, -1}, {2, -1}, {3, -1}};
        for (int[] one : entries) {
            int t = one[0], e = one[1];
            if (e >= 0) number("rank", 0, 15, NO, (d, v) -> bit(d.entry(t, e, v, 5, 1, 1)));
            number("action", 0, 7, NO, (d, v) -> bit(d.entry(t, e, 1, v, 1, 1)));
            number("p", 0, 65535, NO, (d, v) -> bit(d.entry(t, e, 1, 5, v, 1)));
            number("q", 0, 65535, NO, (d, v) -> bit(d.entry(t, e, 1, 5, 1, v)));
        }
    }

    private static boolean in(int low, int number, int high) {
        return low <= number && number <= high;
    }

    private static void match() {
        check.part("8: true; false, and nothing changes, if there is no such ENTRY or key, or a number is not as said");
        number("t", 0, 3, NO, (d, v) -> {
            if (in(0, v, 3)) d.entry(v, 11, 0, 0, 0, 0);
            return bit(d.match(v, 11, 0, 7, 7));
        });
        number("e", 0, 11, NO, (d, v) -> {
            if (in(0, v, 11)) d.entry(3, v, 0, 0, 0, 0);
            return bit(d.match(3, v, 0, 7, 7));
        });
        for (int i = 0; i < 12; i++) {
            int e = i;
            if (e != 9) unchanged("entry " + e + " is not there", d -> bit(d.match(3, e, 0, 7, 7)), NO);
        }
        for (int i = 0; i < 4; i++) {
            int t = i;
            unchanged("the DEFAULT of " + t + " has no keys", d -> bit(d.match(t, -1, 0, 7, 7)), NO);
            unchanged("entry 12 of " + t, d -> bit(d.match(t, 12, 0, 7, 7)), NO);
        }
        number("k of two", 0, 1, NO, (d, v) -> bit(d.match(0, 0, v, 7, 7)));
        number("k of two", 0, 1, NO, (d, v) -> bit(d.match(2, 3, v, 7, 7)));
        number("k of one", 0, 0, NO, (d, v) -> bit(d.match(1, 4, v, 7, 7)));
        number("k of one", 0, 0, NO, (d, v) -> bit(d.match(3, 9, v, 7, 7)));
    }

    private static void matchMasks() {
        check.part("8: Value (0..65535) and mask (MASKED, 0..65535) or n (PREFIX, 0..16)");
        number("value, EXACT", 0, 65535, NO, (d, v) -> bit(d.match(0, 0, 0, v, 7)));
        number("value, PREFIX", 0, 65535, NO, (d, v) -> bit(d.match(0, 0, 1, v, 7)));
        number("value, PREFIX", 0, 65535, NO, (d, v) -> bit(d.match(1, 4, 0, v, 7)));
        number("value, MASKED", 0, 65535, NO, (d, v) -> bit(d.match(2, 3, 0, v, 7)));
        number("value, MASKED", 0, 65535, NO, (d, v) -> bit(d.match(2, 3, 1, v, 7)));
        number("n", 0, 16, NO, (d, v) -> bit(d.match(0, 0, 1, 7, v)));
        number("n", 0, 16, NO, (d, v) -> bit(d.match(1, 4, 0, 7, v)));
        number("mask", 0, 65535, NO, (d, v) -> bit(d.match(2, 3, 0, 7, v)));
        number("mask", 0, 65535, NO, (d, v) -> bit(d.match(2, 3, 1, 7, v)));
        notLookedAt("mask, EXACT", NO, (d, v) -> bit(d.match(0, 0, 0, 7, v)));
    }

    private static void erase() {
        check.part("9: An ENTRY is not there any more: true; false if there is none");
        number("t", 0, 3, NO, (d, v) -> {
            if (in(0, v, 3)) d.entry(v, 11, 0, 0, 0, 0);
            return bit(d.erase(v, 11));
        });
        number("e", 0, 11, NO, (d, v) -> {
            if (in(0, v, 11)) d.entry(3, v, 0, 0, 0, 0);
            return bit(d.erase(3, v));
        });
        for (int i = 0; i < 12; i++) {
            int e = i;
            if (e != 9) unchanged("entry " + e + " is not there", d -> bit(d.erase(3, e)), NO);
        }
        for (int i = 0; i < 4; i++) {
            int t = i;
            unchanged("the DEFAULT of " + t + " is always there", d -> bit(d.erase(t, -1)), NO);
            unchanged("entry 12 of " + t, d -> bit(d.erase(t, 12)), NO);
        }
        for (int t = 0; t < 4; t++) {
            SwitchDesk d = new SwitchDesk();
            for (int e = 0; e < 12; e++) {
                d.entry(t, e, 0, 0, 0, 0);
                check.yes("once", d.erase(t, e));
                check.no("not twice", d.erase(t, e));
                check.due("it is gone", d.taken(t, e), -1);
            }
        }
    }

    private static void step() {
        check.part("10: REFUSED if there are 16, or a number is not as said");
        number("what", 0, 5, REFUSED, (d, v) -> d.step(v, 0, 0, 16));
        for (int i = 0; i < 6; i++) {
            int what = i;
            unchangedWhenFull("a seventeenth", d -> d.step(what, 0, 0, 16), REFUSED);
            unchangedWhenFull("a seventeenth", d -> d.step(what, 0, 0, 17), REFUSED);
            // There are 14 steps already.
            if (what != 1) number("goal of " + what, 15, 16, REFUSED, (d, v) -> d.step(what, 0, 0, v));
        }
    }

    private static void stepNumbers() {
        check.part("10: what b is: 0, 3 and 5 not looked at, 1, 2 0..65535, 4 a field; a of 5 and goal of 1 not looked at");
        int[] highestA = {3, 7, 27, 5, 27, -1};
        int[] highestB = {-1, 65535, 65535, -1, 27, -1};
        for (int i = 0; i < 6; i++) {
            int what = i;
            if (highestA[i] < 0) notLookedAt("a of " + i, REFUSED, (d, v) -> d.step(what, v, 0, 16));
            else number("a of " + i, 0, highestA[i], REFUSED, (d, v) -> d.step(what, v, 0, 16));
            if (highestB[i] < 0) notLookedAt("b of " + i, REFUSED, (d, v) -> d.step(what, 0, v, 16));
            else number("b of " + i, 0, highestB[i], REFUSED, (d, v) -> d.step(what, 0, v, 16));
        }
        notLookedAt("goal of 1", REFUSED, (d, v) -> d.step(1, 6, 5, v));
    }

    private static void order() {
        check.part("11: REFUSED if it is none, or there are 6");
        number("h", 0, 5, REFUSED, (d, v) -> d.order(v));
        for (int i = 0; i < 6; i++) {
            int h = i;
            unchangedWhenFull("a seventh", d -> d.order(h), REFUSED);
        }
    }

    private static void clear() {
        check.part("12: how many there were; REFUSED for others");
        number("what", 0, 3, REFUSED, (d, v) -> d.clear(v, 0));
        number("k of 0", 0, 7, REFUSED, (d, v) -> d.clear(0, v));
        int[] had = {0, 14, 5, 14};
        int[] hadWhenFull = {0, 16, 6, 16};
        for (int i = 1; i < 4; i++) {
            int what = i;
            notLookedAt("k of " + what, REFUSED, (d, v) -> d.clear(what, v));
            SwitchDesk d = Busy.make();
            check.due("there were", d.clear(what, 0), had[what]);
            check.due("there are none", d.clear(what, 0), 0);
            check.due("full", Busy.full().clear(what, 0), hadWhenFull[what]);
        }
        for (int a = 0; a < 8; a++) {
            check.due("OPERATIONS of " + a, Busy.make().clear(0, a), a < 6 ? 2 : 3);
            check.due("OPERATIONS of a full one", Busy.full().clear(0, a), 5);
            check.due("OPERATIONS of a new one", new SwitchDesk().clear(0, a), 0);
        }
    }

    private static void type() {
        check.part("13: Appends a byte (its lowest 8 bits) to the packet: how many; REFUSED if there are 16");
        int[] bytes = {0, 255, 256, 511, -1, -256, -257, Integer.MIN_VALUE, Integer.MAX_VALUE};
        int[] due = {0, 255, 0, 255, 255, 0, 255, 0, 255};
        SwitchDesk d = new SwitchDesk();
        for (int i = 0; i < bytes.length; i++) check.due("how many", d.type(bytes[i]), i + 1);
        d.send(0);
        for (int i = 0; i < bytes.length; i++) check.due("of " + bytes[i], d.out(i), due[i]);
        for (int i = 0; i < bytes.length; i++) {
            int b = bytes[i];
            unchangedWhenFull("a seventeenth", one -> one.type(b), REFUSED);
        }
    }

    private static void send() {
        check.part("14: SENT to a PORT 0..65535; REFUSED, and nothing changes, for another port");
        number("port", 0, 65535, REFUSED, (d, v) -> d.send(v));
    }

    private static void out() {
        check.part("15: Byte k of the packet that came OUT; NONE if there is none. k = -1: how many");
        int bytes = Busy.make().out(-1);
        check.yes("it has some", bytes > 2);
        telling("k", -1, bytes - 1, (d, v) -> d.out(v));
        for (int k = -1; k < 16; k++) check.due("before any", new SwitchDesk().out(k), -1);
        SwitchDesk d = new SwitchDesk();
        for (int result : new int[] {SwitchDesk.DROPPED, SwitchDesk.REJECTED}) {
            Desks.type(d, 1, 2);
            d.clear(1, 0);
            d.state(0, -1, -1, 8);
            check.due("OUT", d.send(0), SwitchDesk.OUT);
            check.due("two bytes", d.out(-1), 2);
            d.state(0, -1, -1, result == SwitchDesk.REJECTED ? 9 : 8);
            check.due("the latest is not OUT", Desks.act(d, Desks.op(8, 0, 0)), result);
            for (int k = -1; k < 3; k++) check.due("none", d.out(k), -1);
        }
    }

    private static void field() {
        check.part("16: What a field holds; REFUSED if there is none");
        telling("f", 0, 27, (d, v) -> d.field(v));
        SwitchDesk d = new SwitchDesk();
        for (int f = 0; f < 28; f++) check.due("before any packet", d.field(f), 0);
        d.width(0, 8);
        d.state(0, 0, -1, 8);
        Desks.type(d, 200);
        check.due("as it was at the end", Desks.after(d, 3, 0, 0), 144);
        Desks.type(d, 100);
        check.due("not of what is only typed", d.field(0), 144);
    }

    private static void last() {
        check.part("17: Of the latest packet what 0..5; 6; 7; 8; 0 before any; NONE for others");
        telling("what", 0, 8, (d, v) -> d.last(v));
        for (int what = 0; what < 9; what++) check.due("before any", new SwitchDesk().last(what), 0);
        SwitchDesk d = new SwitchDesk();
        for (int s = 0; s < 8; s++) d.state(s, s < 6 ? s : -1, -1, s + 1);
        d.step(1, 0, 0, 0);
        for (int i = 1; i < 16; i++) d.step(1, 1, 0, 0);
        d.operation(0, 9, 0, 0);
        d.send(0);
        int[] most = {1, 1, 1, 1, 1, 1, 4, 32, 64};
        for (int what = 0; what < 9; what++) check.due("in all, what " + what, d.last(what), most[what]);
        d.state(7, -1, -1, 0);
        d.send(0);
        int[] then = {1, 1, 1, 1, 1, 1, 1, 12, 0};
        for (int what = 0; what < 9; what++) check.due("REJECTED, what " + what, d.last(what), then[what]);
    }

    private static void taken() {
        check.part("18: How often an ENTRY was CHOSEN since it was set (e -1: the DEFAULT); NONE if there is none");
        telling("t", 0, 3, (d, v) -> d.taken(v, -1));
        for (int t : Desks.wrongFor(0, 3)) check.due("entry of table " + t, Busy.make().taken(t, 0), -1);
        number("e", -1, 11, REFUSED, (d, v) -> {
            if (in(0, v, 11)) d.entry(3, v, 0, 0, 0, 0);
            return d.taken(3, v);
        });
        SwitchDesk d = new SwitchDesk();
        d.step(0, 2, 0, 16);
        for (int e : new int[] {0, 11}) {
            check.due("not there", d.taken(2, e), -1);
            d.entry(2, e, 0, 0, 0, 0);
            check.due("never CHOSEN", d.taken(2, e), 0);
            for (int i = 1; i <= 3; i++) {
                d.send(0);
                check.due("CHOSEN", d.taken(2, e), i);
            }
            d.entry(2, e, 0, 0, 0, 0);
            check.due("since it was set", d.taken(2, e), 0);
            d.send(0);
            check.due("since then", d.taken(2, e), 1);
            d.erase(2, e);
            check.due("not there", d.taken(2, e), -1);
            d.entry(2, e, 0, 0, 0, 0);
            check.due("there again", d.taken(2, e), 0);
            d.erase(2, e);
        }
        d.send(0);
        d.entry(2, -1, 0, 1, 2, 3);
        check.due("the DEFAULT, since the beginning", d.taken(2, -1), 1);
        d.keys(2, 24, 2, -1, 0);
        d.send(0);
        check.due("though the KEYS were set", d.taken(2, -1), 2);
    }

    private static void register() {
        check.part("19: A register gets v modulo 65536 if set; its number then; REFUSED if there is none");
        telling("x", 0, 7, (d, v) -> d.register(v, false, 5));
        number("x", 0, 7, REFUSED, (d, v) -> d.register(v, true, 5));
        int[] numbers = {0, 65535, 65536, 65537, 131071, -1, -65535, -65536, -65537, Integer.MIN_VALUE, Integer.MAX_VALUE};
        int[] due = {0, 65535, 0, 1, 65535, 65535, 1, 0, 65535, 0, 65535};
        for (int x = 0; x < 8; x++) {
            SwitchDesk d = new SwitchDesk();
            for (int i = 0; i < numbers.length; i++) {
                check.due("set to " + numbers[i], d.register(x, true, numbers[i]), due[i]);
                check.due("its number", d.register(x, false, 77), due[i]);
                check.due("in an action", Desks.after(d, 11, 27, x), due[i]);
            }
        }
    }

    private static void count() {
        check.part("20: How many packets came OUT (0), were DROPPED (1), were REJECTED (2); NONE for others");
        telling("what", 0, 2, (d, v) -> d.count(v));
        SwitchDesk d = new SwitchDesk();
        for (int what = 0; what < 3; what++) check.due("before any", d.count(what), 0);
        d.send(-1);
        d.send(65536);
        for (int what = 0; what < 3; what++) check.due("refused ones do not count", d.count(what), 0);
        d.send(0);
        Desks.act(d, Desks.op(9, 0, 0));
        Desks.act(d, Desks.op(8, 0, 0));
        d.state(0, -1, -1, 9);
        for (int i = 0; i < 3; i++) d.send(0);
        for (int what = 0; what < 3; what++) check.due("what " + what, d.count(what), what + 1);
    }

    private static void setMeter() {
        check.part("21: METER a has RATE b (0..255), DEPTH c (0..1000) and c TOKENS: true; false, and nothing changes");
        number("what", 0, 2, NO, (d, v) -> bit(d.set(v, 1, 1, 1)));
        number("a", 0, 3, NO, (d, v) -> bit(d.set(0, v, 7, 77)));
        for (int i = 0; i < 4; i++) {
            int x = i;
            number("b", 0, 255, NO, (d, v) -> bit(d.set(0, x, v, 77)));
            number("c", 0, 1000, NO, (d, v) -> bit(d.set(0, x, 7, v)));
            for (int depth : new int[] {0, 1, 999, 1000}) {
                SwitchDesk d = Busy.make();
                d.set(0, x, 255, depth);
                check.due("c TOKENS", d.tokens(x), depth);
            }
        }
    }

    private static void setGroup() {
        check.part("21: GROUP a is the ports p with bit p of b (0..15): true; false, and nothing changes");
        number("a", 0, 3, NO, (d, v) -> bit(d.set(1, v, 9, 0)));
        for (int i = 0; i < 4; i++) {
            int group = i;
            number("b", 0, 15, NO, (d, v) -> bit(d.set(1, group, v, 0)));
            notLookedAt("c", NO, (d, v) -> bit(d.set(1, group, 6, v)));
        }
    }

    private static void setQuantum() {
        check.part("21: QUEUE b of port a has QUANTUM c (1..32): true; false, and nothing changes");
        number("a", 0, 3, NO, (d, v) -> bit(d.set(2, v, 1, 32)));
        for (int i = 0; i < 4; i++) {
            int p = i;
            number("b", 0, 2, NO, (d, v) -> bit(d.set(2, p, v, 32)));
            for (int j = 0; j < 3; j++) {
                int q = j;
                number("c", 1, 32, NO, (d, v) -> bit(d.set(2, p, q, v)));
            }
        }
    }

    private static void tick() {
        check.part("22: n TICKS (0..1000): how many there were in all; REFUSED for another n");
        number("n", 0, 1000, REFUSED, (d, v) -> d.tick(v));
        SwitchDesk d = new SwitchDesk();
        check.due("none", d.tick(0), 0);
        check.due("1000", d.tick(1000), 1000);
        check.due("1001 is refused", d.tick(1001), -1);
        check.due("-1 is refused", d.tick(-1), -1);
        check.due("none more", d.tick(0), 1000);
        check.due("one more", d.tick(1), 1001);
        for (int i = 1; i <= 300; i++) check.due("in all", d.tick(1000), 1001 + 1000 * i);
    }

    private static void fetch() {
        check.part("23: FETCHES a packet from a port: how many bytes it has; NONE if there is none, or no such port");
        number("port", 0, 3, REFUSED, (d, v) -> {
            if (in(0, v, 3)) d.send(v % 2);
            return d.fetch(v);
        });
        unchanged("an empty port", d -> d.fetch(Busy.EMPTY_PORT), REFUSED);
        for (int bytes = 0; bytes <= 16; bytes++) {
            SwitchDesk d = Desks.routing();
            Desks.route(d, 2, 1, new int[bytes]);
            check.due("bytes", d.fetch(2), bytes);
            check.due("none then", d.fetch(2), -1);
        }
    }

    private static void got() {
        check.part("24: Byte k of the packet FETCHED last; NONE if there is none");
        telling("k", 0, 11, (d, v) -> d.got(v));
        for (int k = -1; k < 17; k++) check.due("before any", new SwitchDesk().got(k), -1);
        for (int bytes = 0; bytes <= 16; bytes++) {
            SwitchDesk d = Desks.routing();
            Desks.route(d, 3, 0, 1, 2, 3, 4, 5, 6, 7, 8, 9, 10, 11, 12, 13, 14, 15, 16);
            d.fetch(3);
            int[] packet = new int[bytes];
            for (int k = 0; k < bytes; k++) packet[k] = 100 + k;
            Desks.route(d, 3, 0, packet);
            for (int k = 0; k < 16; k++) check.due("not FETCHED yet, byte " + k, d.got(k), 1 + k);
            d.fetch(3);
            for (int k = 0; k < bytes; k++) check.due("byte " + k, d.got(k), 100 + k);
            check.due("none before", d.got(-1), -1);
            check.due("none behind", d.got(bytes), -1);
            check.due("none at 16", d.got(16), -1);
        }
    }

    private static void port() {
        check.part("25: Of a port what 0..2; 3..5; 6; 7; NONE for others");
        for (int i = 0; i < 8; i++) {
            int what = i;
            telling("p of " + what, 0, 3, (d, v) -> d.port(v, what));
        }
        for (int i = 0; i < 4; i++) {
            int p = i;
            telling("what of " + p, 0, 7, (d, v) -> d.port(p, v));
        }
    }

    private static void tokens() {
        check.part("26: The TOKENS of a METER; NONE if there is none");
        telling("x", 0, 3, (d, v) -> d.tokens(v));
    }
}
