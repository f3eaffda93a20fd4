import java.util.ArrayDeque;
import java.util.Random;

/** Long runs of calls, the same ones each time, on the program and on the model side by side. */
public final class ModelTest {
    private static final int RUNS = 6000;
    /** What an object answers after its 512th call is free; the look at all of it needs the rest. */
    private static final int CALLS = 320, ALL_CALLS = 512;

    private final Check check;
    private final Random random;
    private final SwitchDesk desk = new SwitchDesk();
    private final Model model = new Model();
    private final ArrayDeque<String> latest = new ArrayDeque<>();
    private static final long[] seen = new long[3];
    private final int packetBias;
    private int calls = 0;

    private ModelTest(Check check, long seed) {
        this.check = check;
        this.random = new Random(seed);
        this.packetBias = random.nextInt(3);
    }

    public static void main(String[] args) {
        Check check = new Check();
        int runs = args.length > 1 ? Integer.parseInt(args[1]) : RUNS;
        for (int run = 0; run < runs && check.wrongSoFar() < 5; run++) {
            check.part("run " + run);
            new ModelTest(check, run).run();
        }
        // A run that never let packets come OUT would compare nothing of worth.
        for (int result = 0; result < 3; result++) {
            check.yes("packets with result " + result + " were frequent", seen[result] > runs);
        }
        System.out.println("OUT " + seen[0] + ", DROPPED " + seen[1] + ", REJECTED " + seen[2]);
        check.finish();
    }

    private void run() {
        int before = check.wrongSoFar();
        for (int i = 0; i < 60; i++) setUp();
        while (calls < CALLS) {
            int kind = random.nextInt(10);
            if (kind == 0) setUp();
            else if (kind <= 4) packet();
            else look();
        }
        lookAtAll();
        check.yes("not more calls than the document allows", calls <= ALL_CALLS);
        if (check.wrongSoFar() != before) {
            System.out.println("  the calls before: " + String.join(" ", latest));
        }
    }

    /** Mostly a number from low to high, at times one beside them or far away. */
    private int pick(int low, int high) {
        int kind = random.nextInt(60);
        if (kind == 0) return low - 1;
        if (kind == 1) return high + 1;
        if (kind == 2) return random.nextInt();
        if (kind <= 5) return high;
        return low + random.nextInt(high - low + 1);
    }

    /** A number of 16 bits, often a small one. */
    private int word() {
        int kind = random.nextInt(4);
        return kind == 0 ? pick(0, 65535) : kind == 1 ? pick(0, 255) : pick(0, 7);
    }

    private int width() {
        return random.nextInt(3) == 0 ? pick(0, 16) : pick(0, 8);
    }

    private int someField() {
        int kind = random.nextInt(4);
        return kind == 0 ? pick(24, 27) : kind == 1 ? pick(0, 7) : pick(0, 27);
    }

    private int someHeader() {
        return random.nextInt(2) == 0 ? pick(0, 1) : pick(0, 5);
    }

    private void due(String call, long got, long want) {
        calls++;
        latest.addLast(call + "=" + want);
        check.due(call, got, want);
    }

    private void due(String call, boolean got, boolean want) {
        due(call, got ? 1 : 0, want ? 1 : 0);
    }

    private static String call(String name, int... numbers) {
        StringBuilder text = new StringBuilder(name).append('(');
        for (int i = 0; i < numbers.length; i++) text.append(i == 0 ? "" : ", ").append(numbers[i]);
        return text.append(')').toString();
    }

    private void setUp() {
        switch (random.nextInt(14)) {
            case 0: case 1: {
                int f = random.nextInt(2) == 0 ? pick(0, 7) : pick(0, 23), w = width();
                due(call("width", f, w), desk.width(f, w), model.width(f, w));
                break;
            }
            case 2: {
                int s = random.nextInt(2) == 0 ? 0 : pick(0, 7), h = random.nextInt(3) == 0 ? -1 : someHeader();
                int f = random.nextInt(3) == 0 ? -1 : someField(), g = goal();
                due(call("state", s, h, f, g), desk.state(s, h, f, g), model.state(s, h, f, g));
                break;
            }
            case 3: {
                int s = random.nextInt(2) == 0 ? 0 : pick(0, 7), v = word(), m = word(), g = goal();
                due(call("branch", s, v, m, g), desk.branch(s, v, m, g), model.branch(s, v, m, g));
                break;
            }
            case 4: case 5: case 6: {
                int a = pick(0, 7), what = pick(0, 14), f = someField(), x = someField();
                if (what == 0) x = word();
                if (what == 1) x = pick(0, 1);
                if (what == 6 || what == 7) f = someHeader();
                if (what == 8 && random.nextInt(3) > 0) what = 0;
                if (what >= 10) x = what == 10 ? someHeader() : pick(0, what == 14 ? 3 : 7);
                due(call("operation", a, what, f, x), desk.operation(a, what, f, x), model.operation(a, what, f, x));
                break;
            }
            case 7: {
                if (random.nextInt(3) > 0) break;
                int t = pick(0, 3), f = someField(), k = pick(0, 2), g = pick(-1, 27), s = pick(0, 2);
                due(call("keys", t, f, k, g, s), desk.keys(t, f, k, g, s), model.keys(t, f, k, g, s));
                break;
            }
            case 8: case 9: {
                int t = pick(0, 3), e = pick(-1, 11), r = random.nextInt(3) == 0 ? pick(0, 15) : pick(0, 2);
                int a = pick(0, 7), p = word(), q = word();
                due(call("entry", t, e, r, a, p, q), desk.entry(t, e, r, a, p, q), model.entry(t, e, r, a, p, q));
                matchOf(t, e);
                break;
            }
            case 10: {
                int t = pick(0, 3), e = pick(0, 11);
                if (random.nextInt(5) == 0) due(call("erase", t, e), desk.erase(t, e), model.erase(t, e));
                else matchOf(t, e);
                break;
            }
            case 11: {
                int what = pick(0, 5), a = pick(0, 27), b = word(), g = random.nextInt(17);
                if (random.nextInt(4) > 0) g = Math.min(16, model.stepCount() + 1 + random.nextInt(3));
                if (what == 0) a = pick(0, 3);
                if (what == 1) a = pick(0, 7);
                if (what == 3) a = someHeader();
                if (what == 4) b = someField();
                due(call("step", what, a, b, g), desk.step(what, a, b, g), model.step(what, a, b, g));
                break;
            }
            case 12: {
                if (random.nextInt(3) > 0) {
                    int h = someHeader();
                    due(call("order", h), desk.order(h), model.order(h));
                } else {
                    int what = pick(0, 3), k = pick(0, 7);
                    if (what == 1 && random.nextInt(3) > 0) what = 0;
                    due(call("clear", what, k), desk.clear(what, k), model.clear(what, k));
                }
                break;
            }
            default: {
                int what = pick(0, 2), a = pick(0, 3), b = pick(0, what == 0 ? 255 : what == 1 ? 15 : 2);
                int c = what == 0 ? pick(0, random.nextBoolean() ? 40 : 1000) : pick(1, 32);
                due(call("set", what, a, b, c), desk.set(what, a, b, c), model.set(what, a, b, c));
            }
        }
    }

    private int goal() {
        return random.nextInt(3) == 0 ? pick(0, 9) : random.nextInt(4) == 0 ? pick(0, 7) : 8;
    }

    private void matchOf(int t, int e) {
        int k = pick(0, 1), v = word(), m = random.nextBoolean() ? pick(0, 16) : word();
        due(call("match", t, e, k, v, m), desk.match(t, e, k, v, m), model.match(t, e, k, v, m));
    }

    private void packet() {
        int kind = random.nextInt(12);
        if (kind == 0 && packetBias > 0) {
            due("clear(3, 0)", desk.clear(3, 0), model.clear(3, 0));
        } else if (kind <= 4) {
            int b = random.nextInt(3) == 0 ? random.nextInt() : random.nextInt(8);
            due(call("type", b), desk.type(b), model.type(b));
        } else if (kind <= 9) {
            int p = random.nextInt(20) == 0 ? word() : random.nextInt(8);
            int result = model.send(p);
            if (result >= 0) seen[result]++;
            due(call("send", p), desk.send(p), result);
        } else if (kind == 10) {
            int n = random.nextInt(3) == 0 ? pick(0, 1000) : random.nextInt(3);
            due(call("tick", n), desk.tick(n), model.tick(n));
        } else {
            int x = pick(0, 7), v = random.nextInt();
            due(call("register", x, v), desk.register(x, true, v), model.register(x, true, v));
        }
    }

    private void look() {
        int a = pick(0, 7), b = pick(-1, 11);
        switch (random.nextInt(12)) {
            case 0: case 1: case 2: {
                int p = random.nextInt(20) == 0 ? pick(0, 3) : random.nextInt(4);
                due(call("fetch", p), desk.fetch(p), model.fetch(p));
                break;
            }
            case 3: due(call("out", b), desk.out(b), model.out(b)); break;
            case 4: due(call("got", b), desk.got(b), model.got(b)); break;
            case 5: due(call("port", b, a), desk.port(b, a), model.port(b, a)); break;
            case 6: due(call("taken", a % 4, b), desk.taken(a % 4, b), model.taken(a % 4, b)); break;
            case 7: due(call("last", b), desk.last(b), model.last(b)); break;
            case 8: due(call("tokens", a), desk.tokens(a), model.tokens(a)); break;
            case 9: due(call("count", a), desk.count(a), model.count(a)); break;
            case 10: due(call("register", a), desk.register(a, false, b), model.register(a, false, b)); break;
            default: {
                int f = pick(0, 27);
                due(call("field", f), desk.field(f), model.field(f));
            }
        }
    }

    private void lookAtAll() {
        for (int f = 0; f < 28; f++) due(call("field", f), desk.field(f), model.field(f));
        for (int k = -1; k <= 16; k++) {
            due(call("out", k), desk.out(k), model.out(k));
            due(call("got", k), desk.got(k), model.got(k));
        }
        for (int what = 0; what < 9; what++) due(call("last", what), desk.last(what), model.last(what));
        for (int x = 0; x < 8; x++) due(call("register", x), desk.register(x, false, 9), model.register(x, false, 9));
        for (int what = 0; what < 3; what++) due(call("count", what), desk.count(what), model.count(what));
        for (int i = 0; i < 4; i++) {
            due(call("tokens", i), desk.tokens(i), model.tokens(i));
            for (int e = -1; e < 12; e++) due(call("taken", i, e), desk.taken(i, e), model.taken(i, e));
            for (int what = 0; what < 8; what++) due(call("port", i, what), desk.port(i, what), model.port(i, what));
        }
    }
}
