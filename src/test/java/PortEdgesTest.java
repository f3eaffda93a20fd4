/** Sentences of the document's Terms on METERS and PORTS that name boundary cases, one method each. */
public final class PortEdgesTest {
    private static final Check check = new Check();

    private PortEdgesTest() {
    }

    public static void main(String[] args) {
        metersAtFirst();
        tokensGrow();
        notAboveTheDepth();
        depthOfTheLatest();
        queuesAtFirst();
        portZeroToThree();
        groupsFourToSeven();
        elseToNone();
        queueModuloThree();
        lastOfItsQueue();
        lostIfFour();
        lostOfAGroup();
        nothingChangesIfEmpty();
        turnAtFirst();
        costNotAboveCredit();
        costOfEachLength();
        turnGoesToTheNext();
        creditOfAnEmptyOne();
        creditOfOneThatWaits();
        moreByItsQuantum();
        untilAPacketIsTaken();
        theTurnStaysWhileThereIsCredit();
        portsAreTheirOwn();
        check.finish();
    }

    private static void metersAtFirst() {
        check.part("METERS 0..3 have a RATE, a DEPTH and TOKENS, all 0 at first");
        SwitchDesk d = new SwitchDesk();
        for (int x = 0; x < 4; x++) check.due("TOKENS of " + x, d.tokens(x), 0);
        d.tick(1000);
        for (int x = 0; x < 4; x++) check.due("TOKENS of " + x + " later", d.tokens(x), 0);
        d.set(0, 2, 0, 0);
        d.tick(1000);
        check.due("set to 0 and 0", d.tokens(2), 0);
    }

    /** METER x has this RATE and DEPTH, and of its TOKENS only so many are left. */
    private static SwitchDesk metered(int x, int rate, int depth, int left) {
        SwitchDesk d = new SwitchDesk();
        d.set(0, x, rate, depth);
        int[] meter = Desks.op(14, 27, x);
        for (int used = 0; used < depth - left; used += d.clear(3, 0)) {
            for (int i = 0; i < Math.min(16, depth - left - used); i++) d.type(0);
            Desks.act(d, meter);
        }
        check.due("left of " + depth, d.tokens(x), left);
        return d;
    }

    private static void tokensGrow() {
        check.part("METERS: with each TICK the TOKENS grow by the RATE");
        for (int x = 0; x < 4; x++) {
            SwitchDesk d = metered(x, 3, 100, 10);
            d.tick(0);
            check.due("no TICK", d.tokens(x), 10);
            d.tick(1);
            check.due("one", d.tokens(x), 13);
            d.tick(2);
            check.due("two more", d.tokens(x), 19);
            for (int other = 0; other < 4; other++) {
                if (other != x) check.due("another METER", d.tokens(other), 0);
            }
        }
        SwitchDesk d = metered(1, 0, 20, 5);
        d.tick(1000);
        check.due("a RATE of 0", d.tokens(1), 5);
        d = metered(1, 255, 300, 0);
        d.tick(1);
        check.due("a RATE of 255", d.tokens(1), 255);
    }

    private static void notAboveTheDepth() {
        check.part("METERS: but not above the DEPTH");
        for (int left = 16; left <= 20; left++) {
            SwitchDesk d = metered(3, 2, 20, left);
            d.tick(1);
            check.due("one TICK from " + left, d.tokens(3), Math.min(20, left + 2));
            d.tick(1);
            check.due("another", d.tokens(3), 20);
        }
        SwitchDesk d = metered(0, 255, 1000, 980);
        d.tick(1000);
        check.due("the greatest of all", d.tokens(0), 1000);
        d = metered(0, 1, 1000, 996);
        for (int i = 1; i <= 6; i++) {
            d.tick(1);
            check.due("by ones", d.tokens(0), Math.min(1000, 996 + i));
        }
        d = metered(0, 1, 20, 0);
        d.tick(19);
        check.due("19 TICKS", d.tokens(0), 19);
        d.tick(1000);
        check.due("1000 TICKS", d.tokens(0), 20);
    }

    private static void depthOfTheLatest() {
        check.part("METERS: not above the DEPTH that was set last");
        SwitchDesk d = new SwitchDesk();
        d.set(0, 0, 5, 100);
        d.set(0, 0, 5, 7);
        check.due("TOKENS", d.tokens(0), 7);
        d.tick(1);
        check.due("not above", d.tokens(0), 7);
        d.set(0, 0, 5, 0);
        d.tick(1);
        check.due("a DEPTH of 0", d.tokens(0), 0);
    }

    private static void queuesAtFirst() {
        check.part("PORTS 0..3 have QUEUES 0..2 each, with a QUANTUM (16 at first) and a CREDIT (0 at first)");
        for (int p = 0; p < 4; p++) {
            for (int q = 0; q < 3; q++) {
                SwitchDesk d = Desks.routing();
                for (int i = 0; i < 3; i++) {
                    check.due("packets", d.port(p, i), 0);
                    check.due("CREDIT", d.port(p, 3 + i), 0);
                }
                Desks.route(d, p, q, 1, 2);
                check.due("in QUEUE " + q, d.port(p, q), 1);
                check.due("FETCHED", d.fetch(p), 2);
                check.due("a QUANTUM of 16, less 6", d.port(p, 3 + q), 10);
            }
        }
    }

    private static void portZeroToThree() {
        check.part("PORTS: to port METADATA 25 if that is 0..3");
        for (int goal = 0; goal < 4; goal++) {
            SwitchDesk d = Desks.routing();
            for (int g = 0; g < 4; g++) d.set(1, g, 15, 0);
            Desks.route(d, goal, 1, 5);
            for (int p = 0; p < 4; p++) check.due("goal " + goal + ", port " + p, d.port(p, 1), p == goal ? 1 : 0);
        }
    }

    private static void groupsFourToSeven() {
        check.part("PORTS: to all ports of GROUP 0..3 (a set, empty at first) if it is 4..7");
        for (int group = 0; group < 4; group++) {
            for (int ports = 0; ports < 16; ports++) {
                SwitchDesk d = Desks.routing();
                Desks.route(d, 4 + group, 0, 5);
                for (int p = 0; p < 4; p++) check.due("empty at first", d.port(p, 0), 0);
                d.set(1, group, ports, 0);
                Desks.route(d, 4 + group, 0, 5);
                for (int other = 4; other < 8; other++) {
                    if (other != 4 + group) Desks.route(d, other, 0, 6);
                }
                for (int p = 0; p < 4; p++) check.due("GROUP of " + ports, d.port(p, 0), ports >> p & 1);
            }
        }
    }

    private static void elseToNone() {
        check.part("PORTS: else to none");
        SwitchDesk d = Desks.routing();
        for (int g = 0; g < 4; g++) d.set(1, g, 15, 0);
        int[] goals = {8, 9, 15, 16, 255, 256, 257, 32768, 65532, 65535};
        for (int goal : goals) {
            check.due("OUT all the same", Desks.route(d, goal, 0, 7), SwitchDesk.OUT);
            check.due("its byte", d.out(0), 7);
            for (int p = 0; p < 4; p++) {
                check.due("not in port " + p, d.port(p, 0) + d.port(p, 1) + d.port(p, 2), 0);
                check.due("nor LOST", d.port(p, 6), 0);
            }
        }
        Desks.route(d, 7, 0, 7);
        check.due("but 7 to all", d.port(0, 0) + d.port(1, 0) + d.port(2, 0) + d.port(3, 0), 4);
    }

    private static void queueModuloThree() {
        check.part("PORTS: QUEUE METADATA 26 modulo 3");
        int[] numbers = {0, 1, 2, 3, 4, 5, 6, 32767, 32768, 65533, 65534, 65535};
        int[] due = {0, 1, 2, 0, 1, 2, 0, 1, 2, 1, 2, 0};
        for (int i = 0; i < numbers.length; i++) {
            SwitchDesk d = Desks.routing();
            Desks.route(d, 2, numbers[i], 5);
            for (int q = 0; q < 3; q++) check.due(numbers[i] + ", QUEUE " + q, d.port(2, q), q == due[i] ? 1 : 0);
        }
    }

    private static void lastOfItsQueue() {
        check.part("PORTS: there it is the last one of QUEUE");
        for (int q = 0; q < 3; q++) {
            SwitchDesk d = Desks.routing();
            for (int i = 1; i <= 3; i++) Desks.route(d, 1, q, i);
            d.fetch(1);
            check.due("the first", d.got(0), 1);
            Desks.route(d, 1, q, 4);
            Desks.route(d, 1, q, 5);
            for (int i = 2; i <= 5; i++) {
                d.fetch(1);
                check.due("in order", d.got(0), i);
            }
            check.due("no more", d.fetch(1), -1);
        }
    }

    private static void lostIfFour() {
        check.part("PORTS: of up to 4 packets; or LOST, if this has 4");
        for (int p = 0; p < 4; p++) {
            for (int q = 0; q < 3; q++) {
                SwitchDesk d = Desks.routing();
                for (int i = 1; i <= 6; i++) {
                    check.due("OUT", Desks.route(d, p, q, i), SwitchDesk.OUT);
                    check.due("packets", d.port(p, q), Math.min(4, i));
                    check.due("LOST", d.port(p, 6), Math.max(0, i - 4));
                }
                Desks.route(d, p, q + 1, 77);
                check.due("another QUEUE has room", d.port(p, 6), 2);
                d.fetch(p);
                while (d.got(0) == 77) d.fetch(p);
                check.due("the first", d.got(0), 1);
                Desks.route(d, p, q, 8);
                check.due("room for one", d.port(p, 6), 2);
                Desks.route(d, p, q, 9);
                check.due("not for two", d.port(p, 6), 3);
                int[] due = {2, 3, 4, 8};
                for (int b : due) {
                    d.fetch(p);
                    while (d.got(0) == 77) d.fetch(p);
                    check.due("those that were not LOST", d.got(0), b);
                }
            }
        }
    }

    private static void lostOfAGroup() {
        check.part("PORTS: LOST where the QUEUE has 4, though not at the other ports of the GROUP");
        SwitchDesk d = Desks.routing();
        d.set(1, 3, 15, 0);
        for (int i = 0; i < 4; i++) Desks.route(d, 2, 0, i);
        Desks.route(d, 7, 0, 9);
        for (int p = 0; p < 4; p++) {
            check.due("packets of port " + p, d.port(p, 0), p == 2 ? 4 : 1);
            check.due("LOST at port " + p, d.port(p, 6), p == 2 ? 1 : 0);
        }
    }

    private static void nothingChangesIfEmpty() {
        check.part("FETCHING from a port (nothing changes if its QUEUES are empty)");
        for (int p = 0; p < 4; p++) {
            SwitchDesk d = Desks.routing();
            check.due("a new one", d.fetch(p), -1);
            dueCredits(d, p, 2, 0, 0, 0);
            Desks.route(d, p, 0, 1, 2, 3);
            Desks.route(d, p, 1, 4, 5, 6, 7);
            check.due("from QUEUE 0", d.fetch(p), 3);
            dueCredits(d, p, 0, 9, 0, 0);
            check.due("from QUEUE 1", d.fetch(p), 4);
            dueCredits(d, p, 1, 0, 8, 0);
            for (int i = 0; i < 3; i++) {
                check.due("empty", d.fetch(p), -1);
                dueCredits(d, p, 1, 0, 8, 0);
                check.due("what was FETCHED stays", d.got(3), 7);
            }
        }
    }

    private static void dueCredits(SwitchDesk d, int p, int turn, int... credits) {
        check.due("TURN of port " + p, d.port(p, 7), turn);
        for (int q = 0; q < 3; q++) check.due("CREDIT of QUEUE " + q, d.port(p, 3 + q), credits[q]);
    }

    private static void turnAtFirst() {
        check.part("FETCHING: one QUEUE has the TURN, at first 2");
        for (int p = 0; p < 4; p++) {
            SwitchDesk d = Desks.routing();
            check.due("2", d.port(p, 7), 2);
            for (int q = 2; q >= 0; q--) Desks.route(d, p, q, q);
            int[] due = {0, 1, 2};
            for (int q : due) {
                d.fetch(p);
                check.due("which has no CREDIT: 0 is next", d.got(0), q);
                check.due("its TURN", d.port(p, 7), q);
            }
        }
    }

    private static void costNotAboveCredit() {
        check.part("FETCHING: the COST of its first one (4 and its bytes) is not above its CREDIT");
        for (int bytes = 0; bytes <= 16; bytes++) {
            for (int quantum = Math.max(1, bytes + 3); quantum <= bytes + 5; quantum++) {
                SwitchDesk d = Desks.routing();
                d.set(2, 1, 0, quantum);
                Desks.route(d, 1, 0, new int[bytes]);
                check.due("its bytes", d.fetch(1), bytes);
                int turns = quantum < bytes + 4 ? 2 : 1;
                String of = quantum + " for a COST of " + (bytes + 4);
                check.due(of, d.port(1, 3), turns * quantum - bytes - 4);
                check.due("the TURN stays", d.port(1, 7), 0);
            }
        }
    }

    private static void costOfEachLength() {
        check.part("FETCHING: this is less by the COST, and the packet is taken");
        SwitchDesk d = Desks.routing();
        d.set(2, 0, 0, 32);
        Desks.route(d, 0, 0, new int[12]);
        Desks.route(d, 0, 0, new int[11]);
        Desks.route(d, 0, 0);
        check.due("32 less 16", d.fetch(0), 12);
        dueCredits(d, 0, 0, 16, 0, 0);
        check.due("16 less 15", d.fetch(0), 11);
        dueCredits(d, 0, 0, 1, 0, 0);
        check.due("1 is too few for 4: a round, and 32 more", d.fetch(0), 0);
        dueCredits(d, 0, 0, 29, 0, 0);
        check.due("all are taken", d.port(0, 0), 0);
    }

    private static void turnGoesToTheNext() {
        check.part("FETCHING: the TURN goes to the next QUEUE (0 behind 2)");
        SwitchDesk d = Desks.routing();
        int[] queues = {2, 1, 0, 2, 0, 1};
        for (int q : queues) {
            Desks.route(d, 3, q, 1, 2, 3, 4, 5, 6, 7);
            check.due("FETCHED", d.fetch(3), 7);
            check.due("the TURN is with " + q, d.port(3, 7), q);
            for (int other = 0; other < 3; other++) {
                check.due("CREDIT of QUEUE " + other, d.port(3, 3 + other), other == q ? 5 : 0);
            }
        }
    }

    private static void creditOfAnEmptyOne() {
        check.part("FETCHING: the CREDIT of the old one being 0 if it is empty");
        for (int q = 0; q < 3; q++) {
            SwitchDesk d = Desks.routing();
            Desks.route(d, 0, q, 1);
            d.fetch(0);
            check.due("11 are left", d.port(0, 3 + q), 11);
            int next = (q + 1) % 3;
            Desks.route(d, 0, next, 1);
            check.due("they stay till the TURN goes on", d.port(0, 3 + q), 11);
            d.fetch(0);
            check.due("0 then", d.port(0, 3 + q), 0);
            check.due("that of the new one", d.port(0, 3 + next), 11);
            Desks.route(d, 0, q, 1);
            d.fetch(0);
            check.due("it begins with its QUANTUM", d.port(0, 3 + q), 11);
        }
    }

    private static void creditOfOneThatWaits() {
        check.part("FETCHING: the CREDIT of the old one being 0 if it is empty, else it keeps it");
        for (int q = 0; q < 3; q++) {
            SwitchDesk d = Desks.routing();
            int next = (q + 1) % 3;
            Desks.route(d, 0, q, 1, 2, 3, 4, 5);
            d.fetch(0);
            Desks.route(d, 0, q, 1, 2, 3, 4);
            Desks.route(d, 0, next, 9);
            check.due("7 are too few for 8", d.fetch(0), 1);
            check.due("they are kept", d.port(0, 3 + q), 7);
            check.due("and come to 23 the next time", d.fetch(0), 4);
            check.due("less 8", d.port(0, 3 + q), 15);
        }
    }

    private static void moreByItsQuantum() {
        check.part("FETCHING: and that of the new one more by its QUANTUM (1..32)");
        int[] quanta = {1, 2, 5, 31, 32};
        for (int p = 0; p < 4; p++) {
            for (int q = 0; q < 3; q++) {
                for (int quantum : quanta) {
                    SwitchDesk d = Desks.routing();
                    d.set(2, p, q, quantum);
                    Desks.route(d, p, q, 1);
                    check.due("FETCHED", d.fetch(p), 1);
                    int rounds = (5 + quantum - 1) / quantum;
                    check.due("CREDIT of QUANTUM " + quantum, d.port(p, 3 + q), rounds * quantum - 5);
                }
            }
        }
    }

    private static void untilAPacketIsTaken() {
        check.part("FETCHING: and so on, until a packet is taken");
        SwitchDesk d = Desks.routing();
        for (int q = 0; q < 3; q++) d.set(2, 1, q, 1);
        Desks.route(d, 1, 1, new int[16]);
        check.due("twenty rounds of 1", d.fetch(1), 16);
        dueCredits(d, 1, 1, 0, 0, 0);
        Desks.route(d, 1, 0, new int[16]);
        Desks.route(d, 1, 1, new int[15]);
        Desks.route(d, 1, 2, new int[16]);
        check.due("the cheaper one first", d.fetch(1), 15);
        dueCredits(d, 1, 1, 19, 0, 19);
        check.due("then the next whose CREDIT is enough", d.fetch(1), 16);
        dueCredits(d, 1, 2, 19, 0, 0);
        check.due("then the last", d.fetch(1), 16);
        dueCredits(d, 1, 0, 0, 0, 0);
    }

    private static void theTurnStaysWhileThereIsCredit() {
        check.part("FETCHING: one QUEUE has the TURN: it stays there while its CREDIT is enough");
        SwitchDesk d = Desks.routing();
        for (int i = 0; i < 4; i++) {
            Desks.route(d, 0, 0, 10 + i);
            Desks.route(d, 0, 1, 20 + i);
        }
        int[] due = {10, 11, 12, 20, 21, 22, 13, 23};
        for (int b : due) {
            d.fetch(0);
            check.due("in fair turns", d.got(0), b);
        }
    }

    private static void portsAreTheirOwn() {
        check.part("PORTS: each its own QUEUES, TURN and CREDITS");
        SwitchDesk d = Desks.routing();
        d.set(1, 0, 15, 0);
        for (int q = 0; q < 3; q++) Desks.route(d, 4, q, 30 + q, 1);
        for (int p = 0; p < 4; p++) {
            for (int i = 0; i < p; i++) d.fetch(p);
        }
        dueCredits(d, 0, 2, 0, 0, 0);
        dueCredits(d, 1, 0, 10, 0, 0);
        dueCredits(d, 2, 1, 0, 10, 0);
        dueCredits(d, 3, 2, 0, 0, 10);
        for (int p = 0; p < 4; p++) check.due("left", d.port(p, 0) + d.port(p, 1) + d.port(p, 2), 3 - p);
    }
}
