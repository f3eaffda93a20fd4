import java.util.ArrayList;
import java.util.Arrays;
import java.util.LinkedList;
import java.util.List;
import java.util.TreeMap;

/**
 * The document once more, written for being read and not for LANGUAGE.md: bits are text, rows are
 * lists. ModelTest compares the program with it.
 */
final class Model {
    private static final class State {
        int header = -1, field = -1, goal = 8;
        final List<int[]> cases = new ArrayList<>();
    }

    private static final class Entry {
        int rank, action, p, q, chosen;
        final int[] value = new int[2], mask = new int[2];
    }

    private static final class Table {
        int[] fields = {24}, kinds = {0};
        final Entry standard = new Entry();
        final TreeMap<Integer, Entry> entries = new TreeMap<>();
    }

    private static final class Meter {
        int rate, depth, tokens;
    }

    private static final class Queue {
        int quantum = 16, credit;
        final LinkedList<int[]> packets = new LinkedList<>();
    }

    private static final class Port {
        final Queue[] queues = {new Queue(), new Queue(), new Queue()};
        int turn = 2, lost;
    }

    private final int[] width = new int[28];
    private final int[] value = new int[28];
    private final boolean[] valid = new boolean[6];
    private final State[] states = new State[8];
    private final List<List<int[]>> actions = new ArrayList<>();
    private final Table[] tables = new Table[4];
    private final List<int[]> steps = new ArrayList<>();
    private final List<Integer> order = new ArrayList<>();
    private final List<Integer> typed = new ArrayList<>();
    private final int[] registers = new int[8];
    private final Meter[] meters = new Meter[4];
    private final int[] groups = new int[4];
    private final Port[] ports = new Port[4];
    private final int[] results = new int[3];
    private int parsed, begun, done, ticks, bytesParsed;
    private boolean drop, again;
    private String rest = "";
    private int[] cameOut = null;
    private int[] fetched = {};

    Model() {
        Arrays.fill(width, 24, 28, 16);
        for (int i = 0; i < 8; i++) {
            states[i] = new State();
            actions.add(new ArrayList<>());
        }
        for (int i = 0; i < 4; i++) {
            tables[i] = new Table();
            meters[i] = new Meter();
            ports[i] = new Port();
        }
    }

    private static boolean in(int v, int low, int high) {
        return low <= v && v <= high;
    }

    private void put(int f, int v) {
        value[f] = Math.floorMod(v, 1 << width[f]);
    }

    private static String bits(int v, int w) {
        StringBuilder text = new StringBuilder();
        for (int i = w - 1; i >= 0; i--) {
            text.append((v >> i) % 2 == 0 ? '0' : '1');
        }
        return text.toString();
    }

    private String bitsOf(int h, int without) {
        StringBuilder text = new StringBuilder();
        for (int f = 4 * h; f < 4 * h + 4; f++) {
            text.append(bits(f == without ? 0 : value[f], width[f]));
        }
        return text.toString();
    }

    boolean width(int f, int w) {
        if (!in(f, 0, 23) || !in(w, 0, 16)) return false;
        width[f] = w;
        put(f, value[f]);
        return true;
    }

    boolean state(int s, int header, int field, int goal) {
        if (!in(s, 0, 7) || !in(header, -1, 5) || !in(field, -1, 27) || !in(goal, 0, 9)) return false;
        State fresh = new State();
        fresh.header = header;
        fresh.field = field;
        fresh.goal = goal;
        states[s] = fresh;
        return true;
    }

    int branch(int s, int v, int mask, int goal) {
        if (!in(s, 0, 7) || !in(v, 0, 65535) || !in(mask, 0, 65535) || !in(goal, 0, 9)) return -1;
        if (states[s].cases.size() == 3) return -1;
        states[s].cases.add(new int[] {v, mask, goal});
        return states[s].cases.size();
    }

    int operation(int a, int what, int f, int x) {
        if (!in(a, 0, 7) || !in(what, 0, 14)) return -1;
        int highestF = what == 6 || what == 7 ? 5 : 27;
        int[] highestX = {65535, 1, 27, 27, 27, 27, 0, 0, 0, 0, 5, 7, 7, 7, 3};
        if (what != 8 && what != 9 && !in(f, 0, highestF)) return -1;
        if (!in(what, 6, 9) && !in(x, 0, highestX[what])) return -1;
        if (actions.get(a).size() == 5) return -1;
        actions.get(a).add(new int[] {what, f, x});
        return actions.get(a).size();
    }

    boolean keys(int t, int f, int kind, int g, int second) {
        if (!in(t, 0, 3) || !in(f, 0, 27) || !in(kind, 0, 2) || !in(g, -1, 27)) return false;
        if (g != -1 && !in(second, 0, 2)) return false;
        tables[t].fields = g == -1 ? new int[] {f} : new int[] {f, g};
        tables[t].kinds = g == -1 ? new int[] {kind} : new int[] {kind, second};
        tables[t].entries.clear();
        return true;
    }

    boolean entry(int t, int e, int rank, int action, int p, int q) {
        if (!in(t, 0, 3) || !in(e, -1, 11) || !in(action, 0, 7)) return false;
        if (!in(p, 0, 65535) || !in(q, 0, 65535) || e != -1 && !in(rank, 0, 15)) return false;
        Entry row = e == -1 ? tables[t].standard : new Entry();
        row.rank = rank;
        row.action = action;
        row.p = p;
        row.q = q;
        if (e != -1) tables[t].entries.put(e, row);
        return true;
    }

    boolean match(int t, int e, int k, int v, int mask) {
        if (!in(t, 0, 3) || !tables[t].entries.containsKey(e)) return false;
        if (!in(k, 0, tables[t].fields.length - 1) || !in(v, 0, 65535)) return false;
        int kind = tables[t].kinds[k];
        if (kind == 1 && !in(mask, 0, 16) || kind == 2 && !in(mask, 0, 65535)) return false;
        tables[t].entries.get(e).value[k] = v;
        tables[t].entries.get(e).mask[k] = mask;
        return true;
    }

    boolean erase(int t, int e) {
        return in(t, 0, 3) && tables[t].entries.remove(e) != null;
    }

    int step(int what, int a, int b, int goal) {
        if (!in(what, 0, 5) || steps.size() == 16) return -1;
        int[] highestA = {3, 7, 27, 5, 27, 0};
        int[] highestB = {0, 65535, 65535, 0, 27, 0};
        boolean looksAtB = what == 1 || what == 2 || what == 4;
        if (what != 5 && !in(a, 0, highestA[what])) return -1;
        if (looksAtB && !in(b, 0, highestB[what])) return -1;
        if (what != 1 && !in(goal, steps.size() + 1, 16)) return -1;
        steps.add(new int[] {what, a, b, goal});
        return steps.size() - 1;
    }

    int stepCount() {
        return steps.size();
    }

    int order(int h) {
        if (!in(h, 0, 5) || order.size() == 6) return -1;
        order.add(h);
        return order.size();
    }

    int clear(int what, int k) {
        if (!in(what, 0, 3) || what == 0 && !in(k, 0, 7)) return -1;
        List<?> row = what == 0 ? actions.get(k) : what == 1 ? steps : what == 2 ? order : typed;
        int had = row.size();
        row.clear();
        return had;
    }

    int type(int b) {
        if (typed.size() == 16) return -1;
        typed.add(b & 255);
        return typed.size();
    }

    int send(int port) {
        if (!in(port, 0, 65535)) return -1;
        value[24] = port;
        value[25] = value[26] = value[27] = 0;
        parsed = begun = done = 0;
        cameOut = null;
        StringBuilder text = new StringBuilder();
        for (int b : typed) text.append(bits(b, 8));
        int result = handle(text.toString());
        results[result]++;
        return result;
    }

    private int handle(String packet) {
        while (true) {
            if (!parse(packet)) return 2;
            doSteps();
            if (drop) return 1;
            StringBuilder text = new StringBuilder();
            for (int h : order) if (valid[h]) text.append(bitsOf(h, -1));
            text.append(rest);
            while (text.length() % 8 != 0) text.append('0');
            packet = text.toString();
            if (packet.length() > 128) return 1;
            if (!again) break;
            if (parsed == 4) return 1;
        }
        comeOut(packet);
        return 0;
    }

    private void comeOut(String packet) {
        cameOut = new int[packet.length() / 8];
        for (int i = 0; i < cameOut.length; i++) {
            cameOut[i] = Integer.parseInt(packet.substring(8 * i, 8 * i + 8), 2);
        }
        int set = 0;
        if (in(value[25], 0, 3)) set = 1 << value[25];
        if (in(value[25], 4, 7)) set = groups[value[25] - 4];
        for (int p = 0; p < 4; p++) {
            if ((set & 1 << p) == 0) continue;
            LinkedList<int[]> queue = ports[p].queues[value[26] % 3].packets;
            if (queue.size() == 4) ports[p].lost++;
            else queue.addLast(cameOut);
        }
    }

    private boolean parse(String packet) {
        parsed++;
        bytesParsed = packet.length() / 8;
        Arrays.fill(valid, false);
        Arrays.fill(value, 0, 24, 0);
        rest = packet;
        int at = 0;
        for (int n = 1; at < 8; n++) {
            if (n == 13) return false;
            begun++;
            State now = states[at];
            if (now.header != -1) {
                int length = bitsOf(now.header, -1).length();
                if (length > rest.length()) return false;
                for (int f = 4 * now.header; f < 4 * now.header + 4; f++) {
                    value[f] = width[f] == 0 ? 0 : Integer.parseInt(rest.substring(0, width[f]), 2);
                    rest = rest.substring(width[f]);
                }
                valid[now.header] = true;
            }
            at = now.goal;
            for (int c = now.cases.size() - 1; c >= 0 && now.field != -1; c--) {
                int[] one = now.cases.get(c);
                if ((value[now.field] & one[1]) == (one[0] & one[1])) at = one[2];
            }
        }
        return at == 8;
    }

    private void doSteps() {
        drop = again = false;
        int n = 0;
        while (n < steps.size()) {
            int[] now = steps.get(n);
            done++;
            boolean goesOn = now[0] != 5;
            if (now[0] == 0) {
                Entry chosen = choose(tables[now[1]]);
                goesOn = chosen != null;
                if (chosen == null) chosen = tables[now[1]].standard;
                chosen.chosen++;
                act(chosen.action, chosen.p, chosen.q);
            }
            if (now[0] == 1) act(now[1], now[2], 0);
            if (now[0] == 2) goesOn = value[now[1]] == now[2];
            if (now[0] == 3) goesOn = valid[now[1]];
            if (now[0] == 4) goesOn = value[now[1]] < value[now[2]];
            n = goesOn ? n + 1 : now[3];
        }
    }

    private Entry choose(Table t) {
        Entry best = null;
        int bestScore = -1;
        for (Entry e : t.entries.values()) {
            boolean fits = true;
            int score = e.rank * 100;
            for (int k = 0; k < t.fields.length; k++) {
                int w = width[t.fields[k]];
                String mask = bits(e.mask[k], 16);
                if (t.kinds[k] == 0) mask = "1".repeat(16);
                if (t.kinds[k] == 1) {
                    int n = Math.min(e.mask[k], w);
                    mask = "0".repeat(16 - w) + "1".repeat(n) + "0".repeat(w - n);
                    score += n;
                }
                String is = bits(value[t.fields[k]], 16), due = bits(e.value[k], 16);
                for (int i = 0; i < 16; i++) {
                    if (mask.charAt(i) == '1' && is.charAt(i) != due.charAt(i)) fits = false;
                }
            }
            if (fits && score > bestScore) {
                best = e;
                bestScore = score;
            }
        }
        return best;
    }

    private void act(int a, int p, int q) {
        for (int[] o : actions.get(a)) {
            int f = o[1], x = o[2];
            if (o[0] == 0) put(f, x);
            if (o[0] == 1) put(f, x == 0 ? p : q);
            if (o[0] == 2) put(f, value[x]);
            if (o[0] == 3) put(f, value[f] + value[x]);
            if (o[0] == 4) put(f, value[f] - value[x]);
            if (o[0] == 5) put(f, value[f] ^ value[x]);
            if (o[0] == 6 && !valid[f]) {
                valid[f] = true;
                Arrays.fill(value, 4 * f, 4 * f + 4, 0);
            }
            if (o[0] == 7) valid[f] = false;
            if (o[0] == 8) drop = true;
            if (o[0] == 9) again = true;
            if (o[0] == 10) put(f, sum(bitsOf(x, f)));
            if (o[0] == 11) put(f, registers[x]);
            if (o[0] == 12) registers[x] = value[f];
            if (o[0] == 13) {
                registers[x] = (registers[x] + value[f]) % 65536;
                put(f, registers[x]);
            }
            if (o[0] == 14) {
                boolean enough = meters[x].tokens >= bytesParsed;
                if (enough) meters[x].tokens -= bytesParsed;
                put(f, enough ? 0 : 1);
            }
        }
    }

    private static int sum(String text) {
        int s = 0;
        for (int from = 0; from < text.length(); from += 16) {
            String number = (text + "0".repeat(16)).substring(from, from + 16);
            s += Integer.parseInt(number, 2);
        }
        while (s >= 65536) s = s / 65536 + s % 65536;
        return 65535 - s;
    }

    int out(int k) {
        if (cameOut == null) return -1;
        return k == -1 ? cameOut.length : in(k, 0, cameOut.length - 1) ? cameOut[k] : -1;
    }

    int field(int f) {
        return in(f, 0, 27) ? value[f] : -1;
    }

    int last(int what) {
        if (in(what, 0, 5)) return valid[what] ? 1 : 0;
        return what == 6 ? parsed : what == 7 ? begun : what == 8 ? done : -1;
    }

    int taken(int t, int e) {
        if (!in(t, 0, 3)) return -1;
        Entry row = e == -1 ? tables[t].standard : tables[t].entries.get(e);
        return row == null ? -1 : row.chosen;
    }

    int register(int x, boolean set, int v) {
        if (!in(x, 0, 7)) return -1;
        if (set) registers[x] = Math.floorMod(v, 65536);
        return registers[x];
    }

    int count(int what) {
        return in(what, 0, 2) ? results[what] : -1;
    }

    boolean set(int what, int a, int b, int c) {
        if (what == 0 && in(a, 0, 3) && in(b, 0, 255) && in(c, 0, 1000)) {
            meters[a].rate = b;
            meters[a].depth = meters[a].tokens = c;
            return true;
        }
        if (what == 1 && in(a, 0, 3) && in(b, 0, 15)) {
            groups[a] = b;
            return true;
        }
        if (what == 2 && in(a, 0, 3) && in(b, 0, 2) && in(c, 1, 32)) {
            ports[a].queues[b].quantum = c;
            return true;
        }
        return false;
    }

    int tick(int n) {
        if (!in(n, 0, 1000)) return -1;
        for (int i = 0; i < n; i++) {
            ticks++;
            for (Meter m : meters) m.tokens = Math.min(m.depth, m.tokens + m.rate);
        }
        return ticks;
    }

    int fetch(int port) {
        if (!in(port, 0, 3)) return -1;
        Port p = ports[port];
        if (Arrays.stream(p.queues).allMatch(q -> q.packets.isEmpty())) return -1;
        while (true) {
            Queue now = p.queues[p.turn];
            if (!now.packets.isEmpty() && 4 + now.packets.getFirst().length <= now.credit) {
                fetched = now.packets.removeFirst();
                now.credit -= 4 + fetched.length;
                return fetched.length;
            }
            if (now.packets.isEmpty()) now.credit = 0;
            p.turn = p.turn == 2 ? 0 : p.turn + 1;
            p.queues[p.turn].credit += p.queues[p.turn].quantum;
        }
    }

    int got(int k) {
        return in(k, 0, fetched.length - 1) ? fetched[k] : -1;
    }

    int port(int p, int what) {
        if (!in(p, 0, 3) || !in(what, 0, 7)) return -1;
        if (what < 3) return ports[p].queues[what].packets.size();
        if (what < 6) return ports[p].queues[what - 3].credit;
        return what == 6 ? ports[p].lost : ports[p].turn;
    }

    int tokens(int x) {
        return in(x, 0, 3) ? meters[x].tokens : -1;
    }
}
