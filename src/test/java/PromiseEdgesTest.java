/** Sentences of the promises that say what goes, stays or is cut, one method each; LimitsTest has their numbers. */
public final class PromiseEdgesTest {
    private static final Check check = new Check();

    private PromiseEdgesTest() {
    }

    public static void main(String[] args) {
        newObject();
        objectsAreTheirOwn();
        numberIsCut();
        noCasesAnyMore();
        howManyCases();
        howManyOperations();
        allEntriesGo();
        entryIsNew();
        defaultIsSet();
        entryIsNotThereAnyMore();
        stepsHaveNumbers();
        howManyInTheOrder();
        whatIsClearedGoes();
        packetStays();
        refusedSendLeavesTheLatest();
        outOfNoBytes();
        fieldsAtTheEnd();
        validAtTheEnd();
        chosenTwiceInOnePacket();
        tokensWhenSet();
        creditStaysWhenQuantumIsSet();
        fieldsOfAHeaderStay();
        constants();
        usedFor512Calls();
        check.finish();
    }

    private static void newObject() {
        check.part("1: As said at first; no packet typed or SENT");
        SwitchDesk d = new SwitchDesk();
        check.due("nothing typed", d.clear(3, 0), 0);
        check.due("nothing came OUT", d.out(-1), -1);
        check.due("nothing FETCHED", d.got(0), -1);
        for (int what = 0; what < 9; what++) check.due("last " + what, d.last(what), 0);
        for (int what = 0; what < 3; what++) check.due("count " + what, d.count(what), 0);
        check.due("no steps", d.clear(1, 0), 0);
        check.due("an empty ORDER", d.clear(2, 0), 0);
        check.due("no TICKS", d.tick(0), 0);
        check.due("an empty packet", d.send(0), SwitchDesk.OUT);
        check.due("comes OUT", d.out(-1), 0);
        check.due("to port 0, QUEUE 0", d.port(0, 0), 1);
    }

    private static void objectsAreTheirOwn() {
        check.part("1: As said at first, whatever another object was used for");
        SwitchDesk other = Busy.full();
        SwitchDesk d = new SwitchDesk();
        check.due("its own packet", d.type(1), 1);
        check.due("OUT", d.send(0), SwitchDesk.OUT);
        check.due("no steps", d.last(8), 0);
        check.due("its own count", d.count(0), 1);
        check.due("the other's packet", other.clear(3, 0), 16);
    }

    private static void numberIsCut() {
        check.part("2: The WIDTH of a field of a header (its number is cut)");
        for (int f = 0; f < 24; f++) {
            SwitchDesk d = new SwitchDesk();
            d.width(f, 16);
            check.due("held", Desks.after(d, 0, f, 0xB6D5), 0xB6D5);
            for (int w = 16; w >= 0; w--) {
                d.width(f, w);
                check.due("field " + f + " of bits: " + w, d.field(f), 0xB6D5 & (1 << w) - 1);
            }
            d.width(f, 16);
            check.due("what was cut does not come back", d.field(f), 0);
        }
    }

    private static void noCasesAnyMore() {
        check.part("3: has this DEFAULT goal and no CASES");
        for (int s = 0; s < 8; s++) {
            SwitchDesk d = new SwitchDesk();
            for (int i = 0; i < 8; i++) {
                d.state(i, -1, 24, i == s ? 9 : 8);
                for (int c = 1; c <= 3; c++) d.branch(i, 5, 65535, i == s ? 8 : 9);
            }
            check.yes("set anew", d.state(s, -1, 24, s == 0 ? 9 : 0));
            if (s > 0) d.state(0, -1, 24, s);
            check.due("the CASES are gone", d.send(5), SwitchDesk.REJECTED);
            for (int i = 1; i < 8; i++) {
                if (i != s) check.due("those of state " + i + " are not", d.branch(i, 0, 0, 8), -1);
            }
            for (int c = 1; c <= 3; c++) check.due("room for three", d.branch(s, 0, 0, 8), c);
            check.due("not for four", d.branch(s, 0, 0, 8), -1);
        }
    }

    private static void howManyCases() {
        check.part("4: One more CASE of a state: how many it has");
        SwitchDesk d = new SwitchDesk();
        for (int c = 1; c <= 3; c++) {
            for (int s = 0; s < 8; s++) check.due("state " + s, d.branch(s, 65535, 65535, 9), c);
        }
        for (int s = 0; s < 8; s++) check.due("state " + s + " has 3", d.branch(s, 0, 0, 0), -1);
    }

    private static void howManyOperations() {
        check.part("5: One more OPERATION of action a: how many it has");
        SwitchDesk d = new SwitchDesk();
        for (int i = 1; i <= 5; i++) {
            for (int a = 0; a < 8; a++) check.due("action " + a, d.operation(a, 9, 0, 0), i);
        }
        for (int a = 0; a < 8; a++) {
            check.due("action " + a + " has 5", d.operation(a, 9, 0, 0), -1);
            check.due("all go", d.clear(0, a), 5);
            check.due("the first again", d.operation(a, 9, 0, 0), 1);
        }
    }

    private static void allEntriesGo() {
        check.part("6: The KEYS of a table; all ENTRIES go");
        for (int t = 0; t < 4; t++) {
            SwitchDesk d = new SwitchDesk();
            for (int i = 0; i < 4; i++) {
                for (int e = 0; e < 12; e++) d.entry(i, e, 0, 0, 0, 0);
            }
            d.entry(t, -1, 0, 3, 4, 5);
            d.operation(3, 1, 27, 1);
            check.yes("the same KEYS again", d.keys(t, 24, 0, -1, 0));
            for (int i = 0; i < 4; i++) {
                for (int e = 0; e < 12; e++) check.due("table " + i + ", entry " + e, d.taken(i, e), i == t ? -1 : 0);
            }
            d.step(0, t, 0, 16);
            d.send(0);
            check.due("the DEFAULT stays", d.field(27), 5);
        }
    }

    private static void entryIsNew() {
        check.part("7: an ENTRY this RANK and values and masks (or n) 0, and it was never CHOSEN");
        for (int kind = 0; kind < 3; kind++) {
            for (int e = 0; e < 12; e += 11) {
                SwitchDesk d = new SwitchDesk();
                d.keys(1, 24, kind, 24, kind);
                d.step(0, 1, 0, 16);
                for (int i = 0; i < 2; i++) {
                    d.entry(1, e, 0, 0, 0, 0);
                    check.due("never CHOSEN", d.taken(1, e), 0);
                    d.send(0);
                    check.due("0 FITS", d.taken(1, e), 1);
                    d.send(65535);
                    check.due("others FIT unless EXACT, kind " + kind, d.taken(1, e), kind == 0 ? 1 : 2);
                    d.match(1, e, 0, 65535, 16);
                    d.match(1, e, 1, 65535, 16);
                }
            }
        }
        SwitchDesk d = new SwitchDesk();
        d.step(0, 0, 0, 16);
        d.entry(0, 0, 0, 0, 0, 0);
        d.entry(0, 1, 15, 0, 0, 0);
        d.send(0);
        check.due("this RANK", d.taken(0, 1), 1);
        d.entry(0, 1, 0, 0, 0, 0);
        d.send(0);
        check.due("this RANK when set anew", d.taken(0, 0), 1);
    }

    private static void defaultIsSet() {
        check.part("7: ENTRY e (-1: the DEFAULT) of table t has this action and PARAMETERS");
        for (int t = 0; t < 4; t++) {
            SwitchDesk d = new SwitchDesk();
            d.operation(7, 1, 26, 0);
            d.operation(7, 1, 27, 1);
            d.entry(t, 11, 3, 1, 0, 0);
            d.match(t, 11, 0, 9, 0);
            d.step(0, t, 0, 16);
            d.send(9);
            check.yes("the DEFAULT", d.entry(t, -1, 0, 7, 65535, 1));
            d.send(8);
            check.due("PARAMETER 0", d.field(26), 65535);
            check.due("PARAMETER 1", d.field(27), 1);
            d.send(9);
            check.due("ENTRY 11 stays as it was", d.taken(t, 11), 2);
            check.due("and its action", d.field(26), 0);
        }
    }

    private static void entryIsNotThereAnyMore() {
        check.part("9: An ENTRY is not there any more");
        for (int e = 0; e < 12; e++) {
            SwitchDesk d = new SwitchDesk();
            for (int i = 0; i < 12; i++) d.entry(2, i, i == e ? 1 : 0, 0, 0, 0);
            d.step(0, 2, 0, 16);
            d.send(0);
            check.due("CHOSEN", d.taken(2, e), 1);
            check.yes("erased", d.erase(2, e));
            d.send(0);
            check.due("none", d.taken(2, e), -1);
            check.due("another is CHOSEN", d.taken(2, e == 0 ? 1 : 0), 1);
            check.no("it has no key", d.match(2, e, 0, 0, 0));
            for (int i = 0; i < 12; i++) check.due("the others are there", d.taken(2, i) >= 0 ? 1 : 0, i == e ? 0 : 1);
        }
    }

    private static void stepsHaveNumbers() {
        check.part("10: One more STEP: its number");
        SwitchDesk d = new SwitchDesk();
        for (int round = 0; round < 2; round++) {
            for (int n = 0; n < 16; n++) check.due("number", d.step(n % 6, 0, 0, 16), n);
            check.due("there are 16", d.step(5, 0, 0, 16), -1);
            check.due("all go", d.clear(1, 0), 16);
        }
    }

    private static void howManyInTheOrder() {
        check.part("11: Appends a header to the ORDER: how many");
        SwitchDesk d = new SwitchDesk();
        for (int round = 0; round < 2; round++) {
            for (int n = 1; n <= 6; n++) check.due("how many", d.order(n % 2 * 5), n);
            check.due("there are 6", d.order(0), -1);
            check.due("all go", d.clear(2, 0), 6);
        }
    }

    private static void whatIsClearedGoes() {
        check.part("12: the OPERATIONS of action k go, all STEPS, the ORDER, the packet that is typed");
        int[] had = {2, 14, 5, 14};
        for (int what = 0; what < 4; what++) {
            SwitchDesk d = Busy.make();
            check.due("how many there were", d.clear(what, 0), had[what]);
            for (int other = 0; other < 4; other++) {
                check.due("what " + other + " after " + what, d.clear(other, 0), other == what ? 0 : had[other]);
            }
            for (int a = 1; a < 8; a++) check.due("OPERATIONS of " + a, d.clear(0, a), a < 6 ? 2 : 3);
        }
    }

    private static void packetStays() {
        check.part("14: The packet (which stays) is SENT to a PORT");
        SwitchDesk d = new SwitchDesk();
        d.width(0, 8);
        d.state(0, 0, -1, 8);
        Desks.type(d, 5, 6, 7);
        int[] results = {SwitchDesk.OUT, SwitchDesk.DROPPED, SwitchDesk.DROPPED, SwitchDesk.REJECTED};
        check.due("OUT", Desks.act(d, Desks.op(0, 0, 9)), results[0]);
        check.due("DROP", Desks.act(d, Desks.op(8, 0, 0)), results[1]);
        d.order(0);
        check.due("AGAIN", Desks.act(d, Desks.op(0, 0, 9), Desks.op(9, 0, 0)), results[2]);
        d.state(0, 0, -1, 9);
        check.due("REJECT", Desks.act(d, Desks.op(0, 0, 9)), results[3]);
        check.due("three bytes are typed", d.type(8), 4);
        d.state(0, -1, -1, 8);
        d.clear(1, 0);
        d.send(0);
        for (int k = 0; k < 4; k++) check.due("byte " + k, d.out(k), 5 + k);
    }

    private static void refusedSendLeavesTheLatest() {
        check.part("14: REFUSED, and nothing changes, for another port");
        SwitchDesk d = new SwitchDesk();
        check.due("-1 before any", d.send(-1), -1);
        check.due("not SENT", d.last(6), 0);
        d.type(3);
        d.send(9);
        check.due("65536", d.send(65536), -1);
        check.due("the port of the latest", d.field(24), 9);
        check.due("it was OUT", d.out(0), 3);
        check.due("PARSED once", d.last(6), 1);
        check.due("one is queued", d.port(0, 0), 1);
    }

    private static void outOfNoBytes() {
        check.part("15: NONE if there is none. k = -1: how many; of a packet without bytes");
        SwitchDesk d = new SwitchDesk();
        d.send(0);
        check.due("how many", d.out(-1), 0);
        check.due("no first", d.out(0), -1);
        check.due("no -2", d.out(-2), -1);
    }

    private static void fieldsAtTheEnd() {
        check.part("16: What a field holds (of the latest packet, as it was at the end)");
        SwitchDesk d = new SwitchDesk();
        d.width(0, 8);
        d.width(4, 8);
        d.state(0, 0, -1, 8);
        Desks.type(d, 1, 2);
        Desks.act(d, Desks.op(0, 0, 99), Desks.op(0, 27, 98), Desks.op(8, 0, 0));
        check.due("of one that was DROPPED", d.field(0), 99);
        check.due("its METADATA", d.field(27), 98);
        d.state(0, 0, -1, 1);
        d.state(1, 1, -1, 9);
        d.send(7);
        check.due("of one that was REJECTED", d.field(0), 1);
        check.due("its last header", d.field(4), 2);
        check.due("its port", d.field(24), 7);
        check.due("its METADATA", d.field(27), 0);
    }

    private static void validAtTheEnd() {
        check.part("17: 1 if that header was VALID at the end, else 0");
        for (int h = 0; h < 6; h++) {
            SwitchDesk d = new SwitchDesk();
            d.state(0, h, -1, 8);
            d.send(0);
            for (int i = 0; i < 6; i++) check.due("taken out", d.last(i), i == h ? 1 : 0);
            Desks.act(d, Desks.op(7, h, 0), Desks.op(6, 5 - h, 0), Desks.op(8, 0, 0));
            for (int i = 0; i < 6; i++) check.due("at the end", d.last(i), i == 5 - h ? 1 : 0);
            d.state(0, h, -1, 9);
            d.send(0);
            for (int i = 0; i < 6; i++) check.due("REJECTED", d.last(i), i == h ? 1 : 0);
        }
    }

    private static void chosenTwiceInOnePacket() {
        check.part("18: How often an ENTRY was CHOSEN since it was set, or the DEFAULT taken since the beginning");
        SwitchDesk d = new SwitchDesk();
        d.operation(0, 9, 0, 0);
        d.step(0, 3, 0, 1);
        d.step(0, 3, 0, 16);
        d.send(0);
        check.due("twice in each of four times", d.taken(3, -1), 8);
        d.entry(3, 0, 0, 0, 0, 0);
        d.send(0);
        check.due("an ENTRY so too", d.taken(3, 0), 8);
        check.due("the DEFAULT no more", d.taken(3, -1), 8);
        d.state(0, -1, -1, 9);
        d.send(0);
        check.due("not where it is REJECTED", d.taken(3, 0), 8);
        d.match(3, 0, 0, 1, 0);
        check.due("match is no setting of it", d.taken(3, 0), 8);
    }

    private static void tokensWhenSet() {
        check.part("21: METER a has RATE b, DEPTH c and c TOKENS");
        SwitchDesk d = new SwitchDesk();
        d.set(0, 1, 3, 9);
        d.type(1);
        Desks.after(d, 14, 27, 1);
        check.due("one was taken", d.tokens(1), 8);
        d.set(0, 1, 3, 9);
        check.due("set anew: c again", d.tokens(1), 9);
        d.set(0, 1, 3, 4);
        check.due("fewer", d.tokens(1), 4);
        check.due("another has its own", d.tokens(0) + d.tokens(2) + d.tokens(3), 0);
    }

    private static void creditStaysWhenQuantumIsSet() {
        check.part("21: QUEUE b of port a has QUANTUM c");
        SwitchDesk d = Desks.routing();
        Desks.route(d, 3, 2, 1);
        d.fetch(3);
        check.due("CREDIT", d.port(3, 5), 11);
        d.set(2, 3, 2, 32);
        check.due("the CREDIT stays", d.port(3, 5), 11);
        Desks.route(d, 3, 2, new int[8]);
        d.fetch(3);
        check.due("11 are too few for 12: 32 more", d.port(3, 5), 31);
    }

    private static void fieldsOfAHeaderStay() {
        check.part("27: OPERATION 7 leaves the fields of the header what they are");
        for (int h = 0; h < 6; h++) {
            SwitchDesk d = new SwitchDesk();
            for (int f = 4 * h; f < 4 * h + 4; f++) d.width(f, 16);
            d.state(0, h, -1, 8);
            d.keys(0, 4 * h + 3, 0, -1, 0);
            d.entry(0, 0, 0, 1, 0, 0);
            d.match(0, 0, 0, 0x0708, 0);
            Desks.type(d, 1, 2, 3, 4, 5, 6, 7, 8);
            d.operation(0, 7, h, 0);
            d.operation(0, 2, 27, 4 * h);
            d.step(1, 0, 0, 0);
            d.step(0, 0, 0, 16);
            d.send(0);
            for (int i = 0; i < 4; i++) check.due("field " + i, d.field(4 * h + i), 0x0102 + 0x0202 * i);
            check.due("an OPERATION reads it", d.field(27), 0x0102);
            check.due("a table looks it up", d.taken(0, 0), 1);
            check.due("it is not VALID", d.last(h), 0);
        }
    }

    private static void constants() {
        check.part("the public face");
        check.due("NONE", SwitchDesk.NONE, -1);
        check.due("REFUSED", SwitchDesk.REFUSED, -1);
        check.due("OUT", SwitchDesk.OUT, 0);
        check.due("DROPPED", SwitchDesk.DROPPED, 1);
        check.due("REJECTED", SwitchDesk.REJECTED, 2);
    }

    private static void usedFor512Calls() {
        check.part("An object is used for at most 512 calls after it has been made");
        int[] due = {510, 0, 510, 506, 0, 511000};
        for (int last = 0; last < due.length; last++) {
            SwitchDesk d = new SwitchDesk();
            d.step(0, 0, 0, 16);
            for (int i = 0; i < 510; i++) {
                if (last < 5) d.send(0);
                else d.tick(1000);
            }
            check.due("the 512th, " + last, lastCall(d, last), due[last]);
        }
    }

    private static int lastCall(SwitchDesk d, int which) {
        switch (which) {
            case 0: return d.count(0);
            case 1: return d.send(65535);
            case 2: return d.taken(0, -1);
            case 3: return d.port(0, 6);
            case 4: return d.fetch(0);
            default: return d.tick(1000);
        }
    }
}
