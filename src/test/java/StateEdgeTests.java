/** Promises 5 to 9, 13 to 16 and 26 at their edges: a test for each sentence that names one. */
public final class StateEdgeTests {
    private static final int BAD = TradeWheel.BAD, STATE = TradeWheel.STATE, NONE = TradeWheel.NONE;
    private static final String SIX_TRADES = Scenes.SIX_TRADES, SIX_PEOPLE = Scenes.SIX_PEOPLE;

    private static final Checks c = new Checks("StateEdgeTests");

    public static void main(String[] args) {
        tradesThatThereAre();
        fourThingsOfATrade();
        storesAndLacksAtTheirEdges();
        skillsThatThereAre();
        fiveThingsOfAPerson();
        worksAtTheFirstNotSkipped();
        whoSkipsAllWorksAtNone();
        worksAtNoneWithoutTrades();
        helpsNoneOrWhom();
        skipsAsBits();
        placesOfTheWheel();
        tunesFromTo();
        tunesAreThree();
        tuneTellsWhatItWas();
        oilChangesTwoNeighbours();
        oilOfTheLastAndTheFirst();
        oilOfTwoTrades();
        oilOfOneTrade();
        favoursOfTwo();
        favoursGrow();
        fourThingsNow();
        anewIsAsAtFirst();
        anewOfSixAndSix();
        anewTellsTheRound();
        fiveThingsCounted();
        countsAtTheirEdges();
        nothingChangesByAsking();
        c.close();
    }

    // ---- promises 5 and 6

    private static void tradesThatThereAre() {
        c.sentence("5: Of a TRADE. BAD");
        c.due("the first", Scenes.busy().trade(0, 0), 9);
        c.due("the last", Scenes.busy().trade(2, 0), 3);
        c.due("the sixth", Scenes.full().trade(5, 1), 1);
        for (int t : Scenes.outside(0, 2)) c.changesNothing("trade " + t, Scenes::busy, x -> x.trade(t, 0), BAD);
        for (int t : Scenes.outside(0, 5)) c.due("of six, trade " + t, Scenes.full().trade(t, 1), BAD);
        for (int t : new int[] {-1, 0, 1}) c.due("no TRADES, trade " + t, Scenes.idle().trade(t, 0), BAD);
    }

    private static void fourThingsOfATrade() {
        c.sentence("5: 0 NEED, 1 YIELD, 2 STORE, 3 what LACKED of it by now. BAD");
        TradeWheel x = Checks.of("trade 7 2;trade 4 1;person;person;skip 1 0;at 1 1;");
        x.go(1);
        int[][] want = {{7, 2, 0, 1}, {4, 1, 0, 1}};
        for (int t = 0; t < 2; t++) {
            for (int what = 0; what < 4; what++) c.due("trade " + t + " " + what, x.trade(t, what), want[t][what]);
        }
        for (int what : Scenes.outside(0, 3)) c.changesNothing("what " + what, Scenes::busy, y -> y.trade(0, what), BAD);
    }

    private static void storesAndLacksAtTheirEdges() {
        c.sentence("5: STORE, what LACKED: what is made is one less than NEED, NEED, one more");
        for (int over = -1; over <= 1; over++) {
            // SKILL 3 times YIELD 3 makes 9.
            TradeWheel x = Checks.of("trade " + (9 - over) + " 3;person;");
            x.go(1);
            c.due("STORE by " + over, x.trade(0, 2), over > 0 ? 1 : 0);
            c.due("LACKED by " + over, x.trade(0, 3), over < 0 ? 1 : 0);
        }
    }

    private static void skillsThatThereAre() {
        c.sentence("6: SKILL NOW. BAD");
        c.due("the first of both", Scenes.full().skill(0, 0), 3);
        c.due("the last of both", Scenes.full().skill(5, 5), 3);
        for (int p : Scenes.outside(0, 3)) c.changesNothing("p " + p, Scenes::busy, x -> x.skill(p, 0), BAD);
        for (int t : Scenes.outside(0, 2)) c.changesNothing("t " + t, Scenes::busy, x -> x.skill(0, t), BAD);
        for (int bad : Scenes.outside(0, 5)) {
            c.due("of six, p " + bad, Scenes.full().skill(bad, 0), BAD);
            c.due("of six, t " + bad, Scenes.full().skill(0, bad), BAD);
        }
        c.due("no TRADES", Scenes.idle().skill(0, 0), BAD);
        c.due("no PEOPLE", Scenes.steady().skill(0, 0), BAD);
    }

    // ---- promise 7

    private static void fiveThingsOfAPerson() {
        c.sentence("7: Of a person NOW. BAD");
        c.due("the last", Scenes.full().person(5, 0), 5);
        for (int p : Scenes.outside(0, 3)) c.changesNothing("p " + p, Scenes::busy, x -> x.person(p, 0), BAD);
        for (int p : Scenes.outside(0, 5)) c.due("of six, p " + p, Scenes.full().person(p, 1), BAD);
        for (int what : Scenes.outside(0, 4)) c.changesNothing("what " + what, Scenes::busy, x -> x.person(0, what), BAD);
        for (int p : new int[] {-1, 0, 1}) c.due("no PEOPLE, p " + p, Scenes.steady().person(p, 0), BAD);
    }

    private static void worksAtTheFirstNotSkipped() {
        c.sentence("7: WORKS AT: while that is one to SKIP, that of the next place (behind the last one the first)");
        String told = "trade 0 1;trade 0 1;trade 0 1;person;wheel 2 0 1;";
        int[] skipsNone = {2, 0, 1}, skipsTwo = {0, 0, 1}, skipsTwoAndOne = {0, 0, 0}, skipsOne = {2, 0, 2};
        for (int k = 0; k < 3; k++) {
            String at = told + "at 0 " + k + ";";
            c.due("skips none, at " + k, Checks.of(at).person(0, 1), skipsNone[k]);
            c.due("skips 2, at " + k, Checks.of(at + "skip 0 2;").person(0, 1), skipsTwo[k]);
            c.due("skips 1, at " + k, Checks.of(at + "skip 0 1;").person(0, 1), skipsOne[k]);
            c.due("skips 2 and 1, at " + k, Checks.of(at + "skip 0 2;skip 0 1;").person(0, 1), skipsTwoAndOne[k]);
            c.due("its place stays", Checks.of(at + "skip 0 2;skip 0 1;").person(0, 0), k);
        }
    }

    private static void whoSkipsAllWorksAtNone() {
        c.sentence("7: who SKIPS all works at none (NONE)");
        String skips = SIX_TRADES + "person;skip 0 0;skip 0 1;skip 0 2;skip 0 3;skip 0 4;";
        for (int k = 0; k < 6; k++) {
            c.due("all but one, at " + k, Checks.of(skips + "at 0 " + k + ";").person(0, 1), 5);
            c.due("all, at " + k, Checks.of(skips + "skip 0 5;at 0 " + k + ";").person(0, 1), NONE);
        }
        c.due("the only one", Checks.of("trade 0 1;person;skip 0 0;").person(0, 1), NONE);
    }

    private static void worksAtNoneWithoutTrades() {
        c.sentence("7: without TRADES there is none to work at");
        for (int p = 0; p < 3; p++) {
            c.due("WORKS AT", Scenes.idle().person(p, 1), NONE);
            c.due("place", Scenes.idle().person(p, 0), 0);
            c.due("SKIPS", Scenes.idle().person(p, 4), 0);
        }
        c.due("ILL", Scenes.idle().person(2, 2), 1);
        c.due("helps", Scenes.idle().person(0, 3), 1);
    }

    private static void helpsNoneOrWhom() {
        c.sentence("7: whom it helps (NONE)");
        TradeWheel x = Scenes.full();
        x.help(5, 0);
        x.help(0, 5);
        c.due("the last helps the first", x.person(5, 3), 0);
        c.due("the first helps the last", x.person(0, 3), 5);
        for (int p = 1; p < 5; p++) c.due(p + " helps none", x.person(p, 3), NONE);
        x.go(1);
        for (int p = 0; p < 6; p++) c.due(p + " helps none then", x.person(p, 3), NONE);
    }

    private static void skipsAsBits() {
        c.sentence("7: TRADES that it SKIPS (bits)");
        for (int t = 0; t < 6; t++) {
            TradeWheel x = Checks.of(SIX_TRADES + SIX_PEOPLE + "skip 5 " + t + ";");
            c.due("bit " + t, x.person(5, 4), 1 << t);
            c.due("nobody else", x.person(4, 4), 0);
        }
        c.due("all", Checks.of(SIX_TRADES + "person;skip 0 5;skip 0 0;skip 0 4;skip 0 2;skip 0 3;skip 0 1;").person(0, 4), 63);
    }

    // ---- promises 8 and 9

    private static void placesOfTheWheel() {
        c.sentence("8: The TRADE at a place of THE WHEEL. BAD");
        TradeWheel x = Checks.of("trade 1 1;trade 1 1;trade 1 1;wheel 1 2 0;");
        c.due("the first", x.wheel(0), 1);
        c.due("the last", x.wheel(2), 0);
        for (int k : Scenes.outside(0, 2)) c.changesNothing("place " + k, Scenes::busy, y -> y.wheel(k), BAD);
        for (int k : Scenes.outside(0, 5)) c.due("of six, place " + k, Scenes.full().wheel(k), BAD);
        c.due("the sixth", Scenes.full().wheel(5), 5);
        for (int k : new int[] {-1, 0, 1}) c.due("no TRADES, place " + k, Scenes.idle().wheel(k), BAD);
    }

    private static void tunesFromTo() {
        c.sentence("9: 0 FADE (0 .. 9; 4 at first), 1 WINTER (0 .. 20; 5), 2 FALL (1 .. 99; 10)");
        int[][] edges = {{0, 9, 4}, {0, 20, 5}, {1, 99, 10}};
        for (int what = 0; what < 3; what++) {
            int tune = what, low = edges[what][0], high = edges[what][1];
            for (int v : Scenes.outside(low, high)) c.changesNothing(what + " becomes " + v, Scenes::busy, x -> x.tune(tune, v), BAD);
            int was = edges[what][2];
            TradeWheel x = new TradeWheel();
            for (int v : new int[] {low, low + 1, high - 1, high, low}) {
                c.due(what + " becomes " + v, x.tune(what, v), was);
                was = v;
            }
        }
    }

    private static void tunesAreThree() {
        c.sentence("9: A TUNE. BAD");
        for (int what : Scenes.outside(0, 2)) c.changesNothing("TUNE " + what, Scenes::busy, x -> x.tune(what, 5), BAD);
    }

    private static void tuneTellsWhatItWas() {
        c.sentence("9: becomes v: what it was");
        TradeWheel x = Scenes.busy();
        c.due("FADE", x.tune(0, 3), 3);
        c.due("WINTER", x.tune(1, 8), 7);
        c.due("FALL", x.tune(2, 1), 12);
        c.due("FADE is its own", x.tune(0, 0), 3);
        c.due("WINTER is its own", x.tune(1, 0), 8);
        c.due("FALL is its own", x.tune(2, 2), 1);
    }

    // ---- promises 13 and 14

    private static void oilChangesTwoNeighbours() {
        c.sentence("13: OILED: place k and the next one: the TRADE at k then. BAD");
        for (int k = 0; k < 5; k++) {
            TradeWheel x = Scenes.full();
            c.due("oil " + k, x.oil(k), k + 1);
            for (int i = 0; i < 6; i++) c.due("place " + i + " then", x.wheel(i), i == k ? k + 1 : i == k + 1 ? k : i);
            for (int p = 0; p < 6; p++) c.due("PEOPLE stay", x.person(p, 0), p);
        }
        for (int k : Scenes.outside(0, 2)) c.changesNothing("oil " + k, Scenes::busy, x -> x.oil(k), BAD);
        for (int k : Scenes.outside(0, 5)) c.changesNothing("of six, oil " + k, Scenes::full, x -> x.oil(k), BAD);
        for (int k : new int[] {-1, 0, 1}) c.changesNothing("no TRADES, oil " + k, Scenes::idle, x -> x.oil(k), BAD);
    }

    private static void oilOfTheLastAndTheFirst() {
        c.sentence("13: OILED: the last one and the first, too");
        TradeWheel x = Scenes.full();
        c.due("oil 5", x.oil(5), 0);
        int[] want = {5, 1, 2, 3, 4, 0};
        for (int k = 0; k < 6; k++) c.due("place " + k, x.wheel(k), want[k]);
        c.due("back again", x.oil(5), 5);
        x = Checks.of("trade 0 1;trade 0 1;trade 0 1;");
        c.due("of three", x.oil(2), 0);
        c.due("the first", x.wheel(0), 2);
        c.due("the middle one", x.wheel(1), 1);
    }

    private static void oilOfTwoTrades() {
        c.sentence("13: two neighbours, of two TRADES");
        for (int k = 0; k < 2; k++) {
            TradeWheel x = Checks.of("trade 0 1;trade 0 1;");
            c.due("oil " + k, x.oil(k), 1 - k);
            c.due("the first", x.wheel(0), 1);
            c.due("the last", x.wheel(1), 0);
        }
    }

    private static void oilOfOneTrade() {
        c.sentence("13: STATE: one TRADE");
        c.changesNothing("oil 0", Scenes::steady, x -> x.oil(0), STATE);
        for (int k : Scenes.outside(0, 0)) c.changesNothing("BAD ahead of STATE, oil " + k, Scenes::steady, x -> x.oil(k), BAD);
    }

    private static void favoursOfTwo() {
        c.sentence("14: FAVOURS that q owes p. BAD (alike, too)");
        for (int p = 0; p < 4; p++) {
            int one = p;
            c.changesNothing("alike " + p, Scenes::busy, x -> x.favours(one, one), BAD);
        }
        for (int bad : Scenes.outside(0, 3)) {
            c.changesNothing("q " + bad, Scenes::busy, x -> x.favours(bad, 0), BAD);
            c.changesNothing("p " + bad, Scenes::busy, x -> x.favours(0, bad), BAD);
            c.changesNothing("both " + bad, Scenes::busy, x -> x.favours(bad, bad), BAD);
        }
        TradeWheel x = Scenes.full();
        x.help(5, 0);
        x.help(0, 5);
        x.help(2, 3);
        x.go(1);
        for (int q = 0; q < 6; q++) {
            for (int p = 0; p < 6; p++) {
                boolean owes = q == 0 && p == 5 || q == 5 && p == 0 || q == 3 && p == 2;
                c.due(q + " owes " + p, x.favours(q, p), q == p ? BAD : owes ? 1 : 0);
            }
        }
    }

    private static void favoursGrow() {
        c.sentence("14: a FAVOUR more, up to 99 ROUNDS");
        TradeWheel x = Scenes.full();
        for (int r = 1; r <= 99; r++) {
            x.help(5, 4);
            x.go(1);
            c.due("behind " + r, x.favours(4, 5), r);
        }
        x.help(5, 4);
        x.go(1);
        c.due("ROUND 99 does not go by", x.favours(4, 5), 99);
    }

    // ---- promises 15, 16 and 26

    private static void fourThingsNow() {
        c.sentence("15: 0 ROUND, 1 what LACKED of all, 2 houses that FELL, 3 STORES of all. BAD");
        TradeWheel x = Checks.of("trade 20 1;trade 2 1;trade 1 1;person;person;person;");
        x.go(1);
        int[] want = {1, 17, 1, 3};
        for (int what = 0; what < 4; what++) c.due("now " + what, x.now(what), want[what]);
        for (int what : Scenes.outside(0, 3)) c.changesNothing("now " + what, Scenes::busy, y -> y.now(what), BAD);
        for (int what = 0; what < 4; what++) c.due("no TRADES, now " + what, Scenes.idle().now(what), 0);
        x = Scenes.steadyAt(99);
        c.due("at ROUND 99", x.now(0), 99);
        c.due("LACKED in 99", x.now(1), 99);
        c.due("FELL in 99", x.now(2), 99);
        // Six make 9 times 9 a ROUND at most: far from any wrap.
        x = Checks.of("trade 0 9;person;person;person;person;person;person;");
        x.go(99);
        c.due("STORES, the most that there can be", x.now(3), 6 * 9 * (3 + 4 + 5 + 6 + 7 + 8 + 93 * 9));
        x = Checks.of("trade 99 1;trade 99 1;trade 99 1;trade 99 1;trade 99 1;trade 99 1;");
        x.tune(1, 20);
        x.go(99);
        c.due("LACKED, the most that there can be", x.now(1), 6 * 99 * (75 + 24 * 3));
    }

    private static void anewIsAsAtFirst() {
        c.sentence("16: NOW is as at first (THE WHEEL, too)");
        String told = "trade 9 1;trade 1 1;person;person;skill 1 1 8;skip 0 1;at 0 1;wheel 1 0;";
        for (int rounds : new int[] {0, 1, 99}) {
            TradeWheel x = Checks.of(told);
            if (rounds > 0) x.help(0, 1);
            if (rounds > 0) x.go(rounds);
            x.oil(0);
            x.ill(0);
            x.help(1, 0);
            c.due("anew at " + rounds, x.anew(), rounds);
            c.same("as at first", Whole.of(x), Whole.of(Checks.of(told)));
        }
        c.due("without TRADES", Scenes.idle().anew(), 0);
        TradeWheel x = Scenes.busy();
        x.anew();
        c.due("TUNES stay", x.tune(0, 0), 3);
        c.due("THE TRACE stays", x.trace(), 1101);
        c.due("THE TEXT stays", x.count(4), 24);
        c.due("IMAGES stay", x.back(1), 3);
    }

    private static void anewOfSixAndSix() {
        c.sentence("16: NOW is as at first, of as many as there can be");
        TradeWheel x = Scenes.crowd();
        c.due("LACKED of the last", x.trade(5, 3), 1);
        c.due("STORE of the one ahead", x.trade(4, 2), 2);
        c.due("anew", x.anew(), 2);
        c.same("as at first", Whole.of(x), Whole.of(Checks.of(SIX_TRADES.replace("0 1", "2 1") + SIX_PEOPLE)));
        x = Scenes.full();
        x.go(5);
        c.due("STORE of the last", x.trade(5, 2), 3 + 3 + 3 + 3 + 2);
        x.anew();
        c.same("STORES as at first", Whole.of(x), Whole.of(Scenes.full()));
    }

    private static void anewTellsTheRound() {
        c.sentence("16: the ROUND it was");
        for (int round : new int[] {0, 1, 98, 99}) {
            TradeWheel x = Scenes.steadyAt(round);
            c.due("anew", x.anew(), round);
            c.due("anew again", x.anew(), 0);
        }
    }

    private static void fiveThingsCounted() {
        c.sentence("26: 0 TRADES, 1 PEOPLE, 2 helps told, 3 ill ones, 4 bytes of THE TEXT. BAD");
        int[] want = {3, 4, 2, 2, 24};
        for (int what = 0; what < 5; what++) c.due("count " + what, Scenes.busy().count(what), want[what]);
        for (int what : Scenes.outside(0, 4)) c.changesNothing("count " + what, Scenes::busy, x -> x.count(what), BAD);
    }

    private static void countsAtTheirEdges() {
        c.sentence("26: none, and as many as there can be");
        int[] none = {0, 0, 0, 0, 0}, all = {6, 6, 6, 6, 400};
        TradeWheel x = Scenes.full();
        for (int p = 0; p < 6; p++) {
            x.ill(p);
            x.help(p, (p + 1) % 6);
        }
        Checks.say(x, " ".repeat(400));
        for (int what = 0; what < 5; what++) {
            c.due("none: count " + what, new TradeWheel().count(what), none[what]);
            c.due("all: count " + what, x.count(what), all[what]);
        }
    }

    private static void nothingChangesByAsking() {
        c.sentence("5 to 8, 14, 15, 26: asking changes nothing");
        c.changesNothing("trade", Scenes::busy, x -> x.trade(1, 0), 14);
        c.changesNothing("skill", Scenes::busy, x -> x.skill(3, 0) - x.skill(3, 0), 0);
        c.changesNothing("person", Scenes::busy, x -> x.person(3, 2), 1);
        c.changesNothing("wheel", Scenes::busy, x -> x.wheel(0), 0);
        c.changesNothing("favours", Scenes::busy, x -> x.favours(1, 0), 1);
        c.changesNothing("now", Scenes::busy, x -> x.now(0), 7);
        c.changesNothing("count", Scenes::busy, x -> x.count(2), 2);
        c.changesNothing("trace", Scenes::busy, TradeWheel::trace, 1101);
    }
}
