import java.util.ArrayList;
import java.util.List;

/** A desk on which every setting tells on packets, and views of it that show a change of any of them. */
final class Busy {
    static final int VIEWS = 5;
    /** A port whose QUEUES are empty, though they were not always. */
    static final int EMPTY_PORT = 0;

    private Busy() {
    }

    static SwitchDesk make() {
        SwitchDesk d = new SwitchDesk();
        parser(d);
        actions(d);
        tables(d);
        steps(d);
        ports(d);
        for (int s = 0; s < 6; s++) {
            d.type((s + 1) << 4 | (s * 3 & 7) << 1 | s & 1);
            d.type(40 + s);
        }
        d.type(0xEE);
        d.type(0x77);
        d.send(0);
        for (int i = 0; i < 4; i++) d.send(1);
        d.tick(2);
        d.fetch(EMPTY_PORT);
        d.send(3);
        d.send(4);
        return d;
    }

    /** The same, but each row that has an end is filled up to it. */
    static SwitchDesk full() {
        SwitchDesk d = make();
        for (int s = 0; s < 8; s++) {
            while (d.branch(s, 0xABCD, 65535, 9) != -1) continue;
        }
        for (int a = 0; a < 8; a++) {
            while (d.operation(a, 5, 27, 24) != -1) continue;
        }
        while (d.step(1, 6, 9, 0) != -1) continue;
        while (d.order(4) != -1) continue;
        while (d.type(0x99) != -1) continue;
        return d;
    }

    /** Header s is taken out by state s, and its first field is s + 1; port 3 is REJECTED by state 7. */
    private static void parser(SwitchDesk d) {
        int[] widths = {4, 3, 1, 8};
        for (int f = 0; f < 24; f++) d.width(f, widths[f % 4]);
        for (int s = 0; s < 6; s++) {
            d.state(s, s, 4 * s, s % 2 == 0 ? 9 : s + 1);
            d.branch(s, s % 2 == 0 ? s + 1 : 0, 15, s % 2 == 0 ? s + 1 : 9);
        }
        d.state(6, -1, -1, 7);
        d.state(7, -1, 24, 8);
        d.branch(7, 3, 65535, 9);
        for (int h : new int[] {5, 3, 1, 0, 2}) d.order(h);
    }

    private static void actions(SwitchDesk d) {
        int[][][] all = {
            {{1, 25, 0}, {1, 26, 1}},
            {{0, 5, 5}, {3, 5, 4}},
            {{13, 27, 2}, {12, 24, 1}},
            {{14, 27, 0}, {14, 6, 3}},
            {{10, 11, 2}, {5, 7, 4}},
            {{6, 5, 0}, {7, 4, 0}},
            {{1, 27, 0}, {2, 15, 24}, {1, 13, 1}},
            {{4, 19, 15}, {1, 27, 0}, {11, 23, 3}}};
        for (int a = 0; a < 8; a++) {
            for (int[] one : all[a]) d.operation(a, one[0], one[1], one[2]);
        }
        for (int x = 0; x < 8; x++) d.register(x, true, 1000 * (x + 1));
    }

    private static void tables(SwitchDesk d) {
        d.keys(0, 24, 0, 0, 1);
        int[] entries = {0, 5, 11};
        for (int i = 0; i < 3; i++) {
            d.entry(0, entries[i], 2, 0, 4 + i, i);
            d.match(0, entries[i], 0, i, 0);
            d.match(0, entries[i], 1, 1, 3);
        }
        d.entry(0, -1, 0, 0, 7, 1);
        d.keys(1, 4, 1, -1, 0);
        d.entry(1, 4, 3, 1, 21, 22);
        d.match(1, 4, 0, 2, 4);
        d.entry(1, 6, 3, 2, 23, 24);
        d.match(1, 6, 0, 2, 2);
        d.entry(1, -1, 0, 3, 25, 26);
        d.keys(2, 8, 2, 24, 2);
        d.entry(2, 3, 7, 4, 31, 32);
        d.match(2, 3, 0, 3, 1);
        d.match(2, 3, 1, 0, 0xFF02);
        d.entry(2, 2, 6, 5, 33, 34);
        d.entry(2, -1, 0, 5, 35, 36);
        d.keys(3, 25, 0, -1, 0);
        d.entry(3, 9, 15, 6, 1000, 2000);
        d.match(3, 9, 0, 5, 0);
        d.entry(3, -1, 0, 7, 3000, 4000);
    }

    private static void steps(SwitchDesk d) {
        int[][] all = {
            {0, 0, 0, 1}, {0, 1, 0, 2}, {0, 2, 0, 4}, {1, 2, 17, 0}, {0, 3, 0, 5}, {2, 24, 1, 7}, {1, 3, 0, 0},
            {3, 4, 0, 9}, {1, 4, 0, 0}, {4, 24, 25, 11}, {1, 1, 0, 0}, {5, 0, 0, 13}, {1, 5, 0, 0}, {1, 7, 6, 0}};
        for (int[] one : all) d.step(one[0], one[1], one[2], one[3]);
    }

    private static void ports(SwitchDesk d) {
        int[] groups = {5, 10, 7, 14};
        for (int i = 0; i < 4; i++) {
            d.set(0, i, i + 1, 20 + 10 * i);
            d.set(1, i, groups[i], 0);
            for (int q = 0; q < 3; q++) d.set(2, i, q, 5 + 3 * i + q);
        }
    }

    /** One look at the desk, by as few calls as keep it below its 512th; it is used up by that. */
    static List<Integer> view(SwitchDesk d, int which) {
        List<Integer> seen = new ArrayList<>();
        switch (which) {
            case 0: all(d, seen); break;
            case 1: sent(d, seen, 0); sent(d, seen, 1); break;
            case 2: sent(d, seen, 2); sent(d, seen, 3); break;
            case 3: fetched(d, seen); break;
            default: counted(d, seen);
        }
        return seen;
    }

    private static void all(SwitchDesk d, List<Integer> seen) {
        packet(d, seen);
        for (int k = 0; k < 16; k++) seen.add(d.got(k));
        for (int what = 0; what < 3; what++) seen.add(d.count(what));
        for (int p = 0; p < 4; p++) {
            for (int what = 0; what < 8; what++) seen.add(d.port(p, what));
        }
        seen.add(d.tick(0));
    }

    private static void packet(SwitchDesk d, List<Integer> seen) {
        for (int f = 0; f < 28; f++) seen.add(d.field(f));
        for (int what = 0; what < 9; what++) seen.add(d.last(what));
        for (int k = -1; k < 16; k++) seen.add(d.out(k));
        for (int t = 0; t < 4; t++) {
            for (int e = -1; e < 12; e++) seen.add(d.taken(t, e));
        }
        for (int x = 0; x < 8; x++) seen.add(d.register(x, false, 0));
        for (int x = 0; x < 4; x++) seen.add(d.tokens(x));
    }

    private static void sent(SwitchDesk d, List<Integer> seen, int port) {
        seen.add(d.send(port));
        packet(d, seen);
    }

    private static void fetched(SwitchDesk d, List<Integer> seen) {
        for (int port = 0; port < 5; port++) seen.add(d.send(port));
        for (int p = 0; p < 4; p++) {
            for (int i = 0; i < 5; i++) {
                seen.add(d.fetch(p));
                seen.add(d.got(0));
                for (int what = 3; what < 8; what++) seen.add(d.port(p, what));
            }
        }
    }

    private static void counted(SwitchDesk d, List<Integer> seen) {
        for (int n : new int[] {0, 1, 1000}) {
            seen.add(d.tick(n));
            for (int x = 0; x < 4; x++) seen.add(d.tokens(x));
        }
        for (int t = 0; t < 4; t++) {
            for (int e = 0; e < 12; e++) {
                seen.add(d.match(t, e, 0, 0, 17) ? 1 : 0);
                seen.add(d.match(t, e, 1, 0, 65536) ? 1 : 0);
                seen.add(d.match(t, e, 1, 0, 17) ? 1 : 0);
            }
        }
        for (int s = 0; s < 8; s++) seen.add(d.branch(s, 0, 0, 0));
        for (int a = 0; a < 8; a++) seen.add(d.clear(0, a));
        for (int what = 1; what < 4; what++) seen.add(d.clear(what, 0));
    }
}
