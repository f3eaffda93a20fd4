/** Promises 21 to 26: meters, groups, queues and what is fetched from them. */
public final class PortTest {
    private static final Check check = new Check();

    private PortTest() {
    }

    public static void main(String[] args) {
        setMeter();
        setGroup();
        setQuantum();
        tick();
        meterInActions();
        fetch();
        fetchInTurns();
        fetchSlowly();
        got();
        port();
        queuesAreFull();
        allQueuesFull();
        whichPort();
        tokens();
        check.finish();
    }

    private static void setMeter() {
        check.part("21 set, a meter");
        SwitchDesk d = new SwitchDesk();
        for (int x = 0; x < 4; x++) {
            check.yes("lowest", d.set(0, x, 0, 0));
            check.yes("highest", d.set(0, x, 255, 1000));
            check.due("full", d.tokens(x), 1000);
            check.yes("set", d.set(0, x, x, 10 + x));
        }
        for (int w : Desks.wrongFor(0, 2)) check.no("what", d.set(w, 1, 1, 1));
        for (int a : Desks.wrongFor(0, 3)) check.no("meter", d.set(0, a, 1, 1));
        for (int b : Desks.wrongFor(0, 255)) check.no("rate", d.set(0, 1, b, 1));
        for (int c : Desks.wrongFor(0, 1000)) check.no("depth", d.set(0, 1, 1, c));
        for (int x = 0; x < 4; x++) check.due("nothing changed", d.tokens(x), 10 + x);
    }

    private static void setGroup() {
        check.part("21 set, a group");
        for (int ports = 0; ports < 16; ports++) {
            SwitchDesk d = Desks.routing();
            check.yes("group", d.set(1, ports % 4, ports, -77));
            for (int a : Desks.wrongFor(0, 3)) check.no("group", d.set(1, a, 15 - ports, 1));
            for (int b : Desks.wrongFor(0, 15)) check.no("ports", d.set(1, ports % 4, b, 1));
            Desks.route(d, 4 + ports % 4, 1, 5, 6);
            for (int p = 0; p < 4; p++) {
                check.due("group " + ports + " port " + p, d.port(p, 1), ports >> p & 1);
                check.due("its bytes", d.fetch(p), (ports >> p & 1) == 1 ? 2 : -1);
            }
            check.yes("another set", d.set(1, ports % 4, 15 - ports, 0));
            Desks.route(d, 4 + ports % 4, 1, 5, 6);
            for (int p = 0; p < 4; p++) check.due("then", d.port(p, 1), 1 - (ports >> p & 1));
        }
    }

    private static void setQuantum() {
        check.part("21 set, a quantum");
        SwitchDesk d = Desks.routing();
        check.yes("lowest", d.set(2, 0, 0, 1));
        check.yes("highest", d.set(2, 3, 2, 32));
        check.yes("set", d.set(2, 3, 1, 9));
        for (int a : Desks.wrongFor(0, 3)) check.no("port", d.set(2, a, 1, 1));
        for (int b : Desks.wrongFor(0, 2)) check.no("queue", d.set(2, 3, b, 1));
        for (int c : Desks.wrongFor(1, 32)) check.no("quantum", d.set(2, 3, 1, c));
        Desks.route(d, 3, 1, 7);
        check.due("fetch", d.fetch(3), 1);
        check.due("credit of 9 less 5", d.port(3, 4), 4);
        check.due("queue 0 was empty", d.port(3, 3), 0);
        check.yes("set", d.set(2, 3, 1, 3));
        check.due("the credit stays", d.port(3, 4), 4);
        Desks.route(d, 3, 2, 7);
        check.due("fetch", d.fetch(3), 1);
        check.due("credit of 32 less 5", d.port(3, 5), 27);
        Desks.route(d, 2, 1, 7);
        check.due("fetch", d.fetch(2), 1);
        check.due("another port has 16", d.port(2, 4), 11);
    }

    private static void tick() {
        check.part("22 tick");
        SwitchDesk d = new SwitchDesk();
        d.set(0, 0, 3, 10);
        d.set(0, 3, 255, 1000);
        d.operation(0, 14, 27, 0);
        d.operation(0, 14, 27, 3);
        d.step(1, 0, 0, 0);
        Desks.type(d, 1, 2, 3, 4, 5, 6, 7);
        d.send(0);
        check.due("less by seven", d.tokens(0), 3);
        check.due("none", d.tick(0), 0);
        check.due("nothing grew", d.tokens(0), 3);
        check.due("one", d.tick(1), 1);
        check.due("grew", d.tokens(0), 6);
        check.due("not above the depth", d.tokens(3), 1000);
        for (int n : Desks.wrongFor(0, 1000)) check.due("refused", d.tick(n), -1);
        check.due("nothing changed", d.tokens(0), 6);
        check.due("in all", d.tick(1000), 1001);
        check.due("the depth", d.tokens(0), 10);
        check.due("the others", d.tokens(1), 0);
        check.due("in all", d.tick(2), 1003);
    }

    private static void meterInActions() {
        check.part("21 and 14, operation 14");
        SwitchDesk d = Desks.withHeader(0);
        d.set(0, 2, 1, 7);
        d.operation(0, 0, 27, 9);
        d.operation(0, 14, 27, 2);
        d.step(1, 0, 0, 0);
        Desks.type(d, 1, 2, 3, 4);
        d.send(0);
        check.due("enough", d.field(27), 0);
        check.due("taken", d.tokens(2), 3);
        d.send(0);
        check.due("one too few", d.field(27), 1);
        check.due("none taken", d.tokens(2), 3);
        Desks.type(d, 1, 2, 3);
        d.send(0);
        check.due("just as many", d.field(27), 0);
        check.due("all taken", d.tokens(2), 0);
        d.state(0, -1, -1, 8);
        d.clear(3, 0);
        d.send(0);
        check.due("no bytes need none", d.field(27), 0);
        d.set(0, 1, 0, 100);
        d.width(0, 8);
        d.state(0, 0, -1, 8);
        d.clear(2, 0);
        d.clear(0, 0);
        d.operation(0, 14, 27, 1);
        d.operation(0, 9, 0, 0);
        d.clear(1, 0);
        d.step(1, 0, 0, 0);
        Desks.type(d, 1, 2, 3, 4, 5, 6, 7, 8);
        check.due("four times", d.send(0), SwitchDesk.DROPPED);
        check.due("8, 6, 4 and 2 bytes", d.tokens(1), 80);
        d.width(4, 0);
        check.due("cut", Desks.after(d, 14, 4, 0), 0);
    }

    private static void fetch() {
        check.part("23 fetch");
        SwitchDesk d = Desks.routing();
        for (int p : Desks.wrongFor(0, 3)) check.due("no port", d.fetch(p), -1);
        for (int p = 0; p < 4; p++) {
            check.due("empty", d.fetch(p), -1);
            check.due("the turn stays", d.port(p, 7), 2);
            check.due("the credits stay", d.port(p, 3) + d.port(p, 4) + d.port(p, 5), 0);
        }
        Desks.route(d, 3, 2);
        check.due("a packet without bytes", d.fetch(3), 0);
        check.due("the turn went round", d.port(3, 7), 2);
        check.due("16 less 4", d.port(3, 5), 12);
        check.due("queue 0 has no credit", d.port(3, 3), 0);
        check.due("queue 1 has no credit", d.port(3, 4), 0);
        check.due("empty", d.fetch(3), -1);
        check.due("the credit stays", d.port(3, 5), 12);
        Desks.route(d, 3, 2, 1, 2, 3, 4, 5, 6, 7, 8);
        check.due("a cost of just 12", d.fetch(3), 8);
        check.due("the rest", d.port(3, 5), 0);
    }

    private static void fetchInTurns() {
        check.part("23 fetch, in turns");
        SwitchDesk d = Desks.routing();
        Desks.route(d, 0, 0, 1, 1, 1);
        Desks.route(d, 0, 0, 2, 2, 2);
        Desks.route(d, 0, 1, 3, 3, 3, 3, 3, 3, 3, 3, 3, 3, 3, 3, 3, 3, 3, 3);
        fetchDue(d, 3, 1, 0, new int[] {9, 0, 0});
        fetchDue(d, 3, 2, 0, new int[] {2, 0, 0});
        fetchDue(d, 16, 3, 1, new int[] {0, 12, 0});
        check.due("empty", d.fetch(0), -1);
        check.due("nothing changes", d.port(0, 4), 12);
        check.due("the turn", d.port(0, 7), 1);
        Desks.route(d, 0, 0, 4, 4, 4, 4, 4, 4);
        Desks.route(d, 0, 0, 5, 5, 5, 5, 5, 5);
        Desks.route(d, 0, 2, 6);
        Desks.route(d, 0, 2, 7, 7, 7, 7, 7, 7, 7, 7);
        fetchDue(d, 1, 6, 2, new int[] {0, 0, 11});
        fetchDue(d, 6, 4, 0, new int[] {6, 0, 11});
        fetchDue(d, 8, 7, 2, new int[] {6, 0, 15});
        fetchDue(d, 6, 5, 0, new int[] {12, 0, 0});
    }

    private static void fetchDue(SwitchDesk d, int bytes, int first, int turn, int[] credits) {
        check.due("bytes", d.fetch(0), bytes);
        check.due("first byte", d.got(0), first);
        check.due("turn", d.port(0, 7), turn);
        for (int q = 0; q < 3; q++) check.due("credit of queue " + q, d.port(0, 3 + q), credits[q]);
    }

    private static void fetchSlowly() {
        check.part("23 fetch, the least quantum");
        SwitchDesk d = Desks.routing();
        for (int q = 0; q < 3; q++) d.set(2, 0, q, 1);
        for (int q = 2; q >= 0; q--) Desks.route(d, 0, q, q, 2, 3, 4, 5, 6, 7, 8, 9, 10, 11, 12, 13, 14, 15, 16);
        fetchDue(d, 16, 0, 0, new int[] {0, 19, 19});
        fetchDue(d, 16, 1, 1, new int[] {0, 0, 19});
        fetchDue(d, 16, 2, 2, new int[] {0, 0, 0});
        check.due("empty", d.fetch(0), -1);
    }

    private static void got() {
        check.part("24 got");
        SwitchDesk d = Desks.routing();
        Desks.route(d, 1, 0, 10, 20, 30);
        Desks.route(d, 1, 0, 40, 50);
        Desks.route(d, 2, 0);
        check.due("nothing yet", d.got(0), -1);
        d.fetch(1);
        check.due("first", d.got(0), 10);
        check.due("last", d.got(2), 30);
        for (int k : Desks.wrongFor(0, 2)) check.due("none " + k, d.got(k), -1);
        d.fetch(3);
        d.fetch(9);
        check.due("a fetch of none leaves it", d.got(1), 20);
        Desks.route(d, 0, 0, 77);
        check.due("as does a send", d.got(0), 10);
        d.fetch(1);
        check.due("the next", d.got(0), 40);
        check.due("its second", d.got(1), 50);
        check.due("none", d.got(2), -1);
        d.fetch(2);
        check.due("no bytes", d.got(0), -1);
    }

    private static void port() {
        check.part("25 port");
        SwitchDesk d = Desks.routing();
        for (int p = 0; p < 4; p++) {
            for (int q = 0; q < 3; q++) for (int i = 0; i <= (p + q) % 4; i++) Desks.route(d, p, q, 1);
        }
        for (int p = 0; p < 4; p++) {
            for (int q = 0; q < 3; q++) check.due("packets", d.port(p, q), (p + q) % 4 + 1);
            check.due("lost", d.port(p, 6), 0);
            check.due("turn", d.port(p, 7), 2);
            for (int w : Desks.wrongFor(0, 7)) check.due("others", d.port(p, w), -1);
        }
        for (int p : Desks.wrongFor(0, 3)) for (int w = 0; w < 8; w++) check.due("no port", d.port(p, w), -1);
        d.fetch(2);
        check.due("one less", d.port(2, 0), 2);
        check.due("credit", d.port(2, 3), 11);
        check.due("turn", d.port(2, 7), 0);
        check.due("another port's turn", d.port(1, 7), 2);
        check.due("another port's credit", d.port(1, 3), 0);
    }

    private static void queuesAreFull() {
        check.part("25 port, lost packets");
        SwitchDesk d = Desks.routing();
        for (int i = 0; i < 4; i++) Desks.route(d, 1, 2, 10 + i);
        check.due("full", d.port(1, 2), 4);
        check.due("OUT all the same", Desks.route(d, 1, 2, 99), SwitchDesk.OUT);
        check.due("still four", d.port(1, 2), 4);
        check.due("lost", d.port(1, 6), 1);
        check.due("it came out", d.out(0), 99);
        check.due("five", d.count(0), 5);
        Desks.route(d, 1, 0, 50);
        check.due("another queue has room", d.port(1, 0), 1);
        d.set(1, 0, 15, 0);
        Desks.route(d, 4, 2, 60);
        check.due("lost at one port", d.port(1, 6), 2);
        check.due("not at the others", d.port(0, 6) + d.port(2, 6) + d.port(3, 6), 0);
        check.due("they have it", d.port(0, 2) + d.port(2, 2) + d.port(3, 2), 3);
        d.fetch(1);
        check.due("queue 0 first", d.got(0), 50);
        for (int i = 0; i < 2; i++) {
            d.fetch(1);
            check.due("in order", d.got(0), 10 + i);
        }
        Desks.route(d, 1, 2, 70);
        check.due("room again", d.port(1, 2), 3);
        int[] due = {12, 13, 70};
        for (int b : due) {
            d.fetch(1);
            check.due("in order", d.got(0), b);
        }
    }

    private static void allQueuesFull() {
        check.part("25 port, all queues full");
        SwitchDesk d = Desks.routing();
        for (int i = 0; i < 48; i++) Desks.route(d, i / 12, i % 12 / 4, 100 + i, i);
        Desks.type(d, 9, 9, 9);
        for (int p = 0; p < 4; p++) {
            for (int q = 0; q < 3; q++) check.due("four", d.port(p, q), 4);
            int sum = 0;
            for (int i = 0; i < 12; i++) {
                check.due("two bytes", d.fetch(p), 2);
                check.due("first and second", d.got(0) - d.got(1), 100);
                sum += d.got(1);
            }
            check.due("all of them", sum, 12 * 12 * p + 66);
            check.due("no more", d.fetch(p), -1);
        }
        d.send(0);
        check.due("what is typed stayed", d.out(-1), 3);
    }

    private static void whichPort() {
        check.part("25 port, which one");
        int[] none = {8, 9, 255, 256, 259, 65535};
        SwitchDesk d = Desks.routing();
        for (int goal : none) {
            check.due("OUT", Desks.route(d, goal, 0, 1), SwitchDesk.OUT);
            for (int p = 0; p < 4; p++) check.due("to none", d.port(p, 0) + d.port(p, 6), 0);
        }
        for (int p = 0; p < 4; p++) {
            Desks.route(d, p, p, p);
            for (int other = 0; other < 4; other++) {
                int all = d.port(other, 0) + d.port(other, 1) + d.port(other, 2);
                check.due("only this one", all, other <= p ? 1 : 0);
            }
            check.due("queue modulo 3", d.port(p, p % 3), 1);
        }
        Desks.route(d, 3, 65535, 1);
        check.due("65535 modulo 3", d.port(3, 0), 2);
        Desks.route(d, 3, 65534, 1);
        check.due("65534 modulo 3", d.port(3, 2), 1);
    }

    private static void tokens() {
        check.part("26 tokens");
        SwitchDesk d = new SwitchDesk();
        for (int x = 0; x < 4; x++) d.set(0, x, 1, 5 * x);
        for (int x = 0; x < 4; x++) check.due("tokens", d.tokens(x), 5 * x);
        for (int x : Desks.wrongFor(0, 3)) check.due("none", d.tokens(x), -1);
    }
}
