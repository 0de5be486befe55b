/** Promises 10 to 12 (a ROUND goes by, HELP, ILL) at their edges: a test for each sentence that names one. */
public final class RoundEdgeTests {
    private static final int BAD = TradeWheel.BAD, STATE = TradeWheel.STATE;
    /** One TRADE and three PEOPLE, the last of whom skips it. */
    private static final String ONE = "trade 99 1;person;person;person;skip 2 0;";

    private static final Checks c = new Checks("RoundEdgeTests");

    public static void main(String[] args) {
        roundsOneTo99();
        roundsThatAreLeft();
        roundsNeedTrades();
        roundsAreBadAheadOfState();
        roundsOneByOneOrAtOnce();
        makesYieldTimesSkill();
        makesWithTheGreaterSkill();
        winterEachFourthRound();
        winterIsCut();
        lacksWhatStoresHaveNot();
        lacksAreAddedForEachTrade();
        housesFallAtFall();
        housesFallByAllTogether();
        housesFallInOneRound();
        skillNineAtMost();
        skillZeroAtLeast();
        fadesBehindEachFadeth();
        fadesNeverWithFadeZero();
        fadesByRoundsGoneNotSinceTuned();
        fadesInAllButThatOne();
        fadesInAllWhoDidNotWork();
        goesBehindThatWorkedAt();
        goesBehindItsOwnPlace();
        goesOnIfIll();
        overBehindOneRound();
        helpOfTwoThatThereAre();
        helpOfOneAtMost();
        helpInARing();
        helpIsOfNoUseIfOneIsIll();
        helpIsOwedAlways();
        helpAndIllWithoutRounds();
        illOnceOrAgain();
        illThatThereAre();
        illMakesNothing();
        c.close();
    }

    // ---- promise 10: how many ROUNDS

    private static void roundsOneTo99() {
        c.sentence("10: n ROUNDS go by (1 .. 99)");
        for (int n : new int[] {1, 2, 98, 99}) {
            TradeWheel x = Scenes.steady();
            c.due("go " + n, x.go(n), n);
            c.due("ROUND", x.now(0), n);
            c.due("LACKED", x.now(1), n);
        }
        for (int n : Scenes.outside(1, 99)) c.changesNothing("go " + n, Scenes::busy, x -> x.go(n), BAD);
    }

    private static void roundsThatAreLeft() {
        c.sentence("10: as many as are left; ROUND 99 at most; STATE: it is ROUND 99");
        for (int n : new int[] {1, 2, 3, 99}) {
            TradeWheel x = Scenes.steadyAt(97);
            c.due("at 97, go " + n, x.go(n), Math.min(n, 2));
            c.due("ROUND", x.now(0), 97 + Math.min(n, 2));
            c.due("at 98, go " + n, Scenes.steadyAt(98).go(n), 1);
            c.changesNothing("at 99, go " + n, Scenes::last, y -> y.go(n), STATE);
        }
        c.due("at 1, go 99", Scenes.steadyAt(1).go(99), 98);
    }

    private static void roundsNeedTrades() {
        c.sentence("10: STATE: no TRADES");
        for (int n : new int[] {1, 2, 98, 99}) {
            c.changesNothing("go " + n, Scenes::idle, x -> x.go(n), STATE);
            c.changesNothing("new, go " + n, TradeWheel::new, x -> x.go(n), STATE);
        }
        c.due("one TRADE, nobody", Scenes.steady().go(1), 1);
    }

    private static void roundsAreBadAheadOfState() {
        c.sentence("10: BAD; STATE");
        for (int n : Scenes.outside(1, 99)) {
            c.changesNothing("at 99, go " + n, Scenes::last, x -> x.go(n), BAD);
            c.changesNothing("no TRADES, go " + n, Scenes::idle, x -> x.go(n), BAD);
        }
    }

    private static void roundsOneByOneOrAtOnce() {
        c.sentence("10: what LACKED in these");
        TradeWheel x = Scenes.busy(), y = Scenes.busy();
        int lacked = 0;
        for (int r = 7; r < 99; r++) lacked += x.go(1);
        c.due("at once", y.go(92), lacked);
        c.same("all of it", Whole.of(x), Whole.of(y));
    }

    // ---- promise 10: what is made, taken, LACKS, falls

    private static int lackingWith(String told) {
        return Checks.of(told).go(1);
    }

    private static void makesYieldTimesSkill() {
        c.sentence("10: MAKES YIELD of that TRADE times SKILL in it");
        for (int makes : new int[] {1, 2, 8, 9}) {
            for (int s : new int[] {0, 1, 8, 9}) {
                c.due(makes + " times " + s, lackingWith("trade 99 " + makes + ";person;skill 0 0 " + s + ";"), 99 - makes * s);
            }
        }
    }

    private static void makesWithTheGreaterSkill() {
        c.sentence("10: or the SKILL in it of who helps, if that is more");
        for (int s = 0; s <= 9; s++) {
            TradeWheel x = Checks.of("trade 99 1;trade 0 1;person;person;skip 1 0;skip 1 1;skill 0 0 4;skill 1 1 9;skill 1 0 " + s + ";");
            x.help(1, 0);
            c.due("4, helped by " + s, x.go(1), 99 - Math.max(4, s));
            c.due("its own grows", x.skill(0, 0), 5);
            c.due("that of who helps does not", x.skill(1, 0), s);
        }
    }

    private static void winterEachFourthRound() {
        c.sentence("10: each fourth ROUND, 3, 7 ..");
        TradeWheel x = Checks.of("trade 10 1;");
        for (int r = 0; r < 99; r++) c.due("in ROUND " + r, x.go(1), r % 4 == 3 ? 15 : 10);
    }

    private static void winterIsCut() {
        c.sentence("10: NEED times (10 and WINTER) by 10, cut");
        int[][] cases = {{1, 0, 1}, {1, 5, 1}, {1, 9, 1}, {1, 10, 2}, {1, 20, 3}, {2, 4, 2}, {2, 5, 3}, {3, 5, 4}, {9, 1, 9}, {10, 1, 11},
            {11, 1, 12}, {0, 20, 0}, {99, 0, 99}, {99, 1, 108}, {99, 19, 287}, {99, 20, 297}};
        for (int[] one : cases) {
            TradeWheel x = Checks.of("trade " + one[0] + " 1;");
            x.tune(1, one[1]);
            c.due("ahead of it", x.go(3), 3 * one[0]);
            c.due("NEED " + one[0] + ", WINTER " + one[1], x.go(1), one[2]);
            c.due("behind it", x.go(1), one[0]);
        }
        // Each TRADE is cut by itself: 1 and 1, not 3 together.
        TradeWheel x = Checks.of("trade 1 1;trade 1 1;");
        x.go(3);
        c.due("two TRADES", x.go(1), 2);
    }

    private static void lacksWhatStoresHaveNot() {
        c.sentence("10: what STORES have not LACKS, they are 0 then");
        TradeWheel x = Checks.of("trade 0 1;person;");
        c.due("no NEED", x.go(3), 0);
        c.due("SKILL 3, 4, 5", x.now(3), 12);
        for (int over = -1; over <= 1; over++) {
            // SKILL 3 times YIELD 2 makes 6, and nobody makes anything in the next ROUND.
            TradeWheel y = Checks.of("trade " + (6 - over) + " 2;person;");
            c.due("lacks, by " + over, y.go(1), over < 0 ? 1 : 0);
            c.due("STORES then", y.now(3), over > 0 ? 1 : 0);
            y.ill(0);
            c.due("lacks in the next", y.go(1), over > 0 ? 4 : 6 - over);
            c.due("STORES are 0", y.now(3), 0);
        }
    }

    private static void lacksAreAddedForEachTrade() {
        c.sentence("10: LACKS (added for each TRADE)");
        TradeWheel x = Checks.of("trade 4 1;trade 2 1;trade 0 1;person;at 0 1;");
        c.due("one TRADE's STORES are not another's", x.go(1), 4);
        c.due("of the first", x.trade(0, 3), 4);
        c.due("of the second", x.trade(1, 3), 0);
        c.due("then", x.go(1), 4 + 1);
        c.due("of the first, added", x.trade(0, 3), 8);
        c.due("of the second, added", x.trade(1, 3), 1);
        c.due("of the third", x.trade(2, 3), 0);
    }

    private static void housesFallAtFall() {
        c.sentence("10: A house FALLS, if all that LACKS is FALL or more");
        int[][] cases = {{9, 10, 0}, {10, 10, 1}, {11, 10, 1}, {20, 10, 1}, {99, 10, 1}, {0, 1, 0}, {1, 1, 1}, {2, 1, 1},
            {98, 99, 0}, {99, 99, 1}, {99, 98, 1}, {99, 1, 1}};
        for (int[] one : cases) {
            TradeWheel x = Checks.of("trade " + one[0] + " 1;");
            x.tune(2, one[1]);
            x.go(1);
            c.due(one[0] + " lacks, FALL " + one[1], x.now(2), one[2]);
        }
        TradeWheel x = Checks.of("trade 99 1;trade 1 1;");
        x.tune(2, 99);
        x.go(1);
        c.due("100 lacks, FALL 99", x.now(2), 1);
    }

    private static void housesFallByAllTogether() {
        c.sentence("10: all that LACKS together");
        int[] falls = {0, 1, 1};
        for (int more = 0; more < 3; more++) {
            TradeWheel x = Checks.of("trade 5 1;trade " + (4 + more) + " 1;");
            x.go(1);
            c.due("5 and " + (4 + more), x.now(2), falls[more]);
        }
    }

    private static void housesFallInOneRound() {
        c.sentence("10: in a ROUND");
        TradeWheel x = Checks.of("trade 9 1;");
        x.go(3);
        c.due("9 in each of three", x.now(2), 0);
        x.go(1);
        c.due("13 in winter", x.now(2), 1);
        x.go(4);
        c.due("and in the next winter", x.now(2), 2);
    }

    // ---- promise 10: SKILLS

    private static void skillNineAtMost() {
        c.sentence("10: SKILL one more in that TRADE, 9 at most");
        int[] behind = {1, 2, 3, 4, 5, 6, 7, 8, 9, 9};
        for (int s = 0; s <= 9; s++) {
            TradeWheel x = Checks.of("trade 0 1;person;skill 0 0 " + s + ";");
            x.go(1);
            c.due("behind " + s, x.skill(0, 0), behind[s]);
        }
        TradeWheel x = Checks.of("trade 0 1;person;");
        x.go(99);
        c.due("behind 99 ROUNDS", x.skill(0, 0), 9);
    }

    private static void skillZeroAtLeast() {
        c.sentence("10: one less, 0 at least");
        int[] behind = {0, 0, 1, 2, 3, 4, 5, 6, 7, 8};
        for (int s = 0; s <= 9; s++) {
            TradeWheel x = Checks.of("trade 0 1;trade 0 1;person;skip 0 1;skill 0 1 " + s + ";");
            x.tune(0, 1);
            x.go(1);
            c.due("behind " + s, x.skill(0, 1), behind[s]);
        }
    }

    private static void fadesBehindEachFadeth() {
        c.sentence("10: behind each FADE-th ROUND (ROUNDS gone then by FADE leave 0)");
        for (int fade = 1; fade <= 9; fade++) {
            TradeWheel x = Checks.of("trade 0 1;trade 0 1;person;skip 0 1;skill 0 1 9;");
            x.tune(0, fade);
            for (int gone = 1; gone <= 28; gone++) {
                x.go(1);
                c.due("FADE " + fade + ", " + gone + " gone", x.skill(0, 1), Math.max(0, 9 - gone / fade));
                c.due("that worked in", x.skill(0, 0), Math.min(9, 3 + gone));
            }
        }
    }

    private static void fadesNeverWithFadeZero() {
        c.sentence("10: with FADE above 0");
        TradeWheel x = Checks.of("trade 0 1;trade 0 1;person;skip 0 1;skill 0 1 9;");
        x.tune(0, 0);
        for (int gone = 1; gone <= 99; gone++) {
            x.go(1);
            c.due(gone + " gone", x.skill(0, 1), 9);
        }
    }

    private static void fadesByRoundsGoneNotSinceTuned() {
        c.sentence("10: ROUNDS gone then by FADE leave 0");
        TradeWheel x = Checks.of("trade 0 1;trade 0 1;person;skip 0 1;skill 0 1 9;");
        x.go(2);
        x.tune(0, 3);
        x.go(1);
        c.due("three gone, one since FADE became 3", x.skill(0, 1), 8);
        x.anew();
        x.go(2);
        c.due("two gone since it was anew", x.skill(0, 1), 9);
        x.go(1);
        c.due("three gone since it was anew", x.skill(0, 1), 8);
        x = Checks.of("trade 0 1;trade 0 1;person;skip 0 1;skill 0 1 9;");
        x.tune(0, 0);
        x.go(90);
        x.tune(0, 9);
        x.go(8);
        c.due("98 gone", x.skill(0, 1), 9);
        x.go(1);
        c.due("99 gone", x.skill(0, 1), 8);
    }

    private static void fadesInAllButThatOne() {
        c.sentence("10: all SKILLS but that one are one less");
        TradeWheel x = Scenes.full();
        x.tune(0, 1);
        x.go(1);
        for (int p = 0; p < 6; p++) {
            for (int t = 0; t < 6; t++) c.due(p + " in " + t, x.skill(p, t), p == t ? 4 : 2);
        }
    }

    private static void fadesInAllWhoDidNotWork() {
        c.sentence("10: who worked at none or was ILL: all");
        TradeWheel x = Checks.of("trade 0 1;trade 0 1;person;person;person;skip 1 0;skip 1 1;");
        x.tune(0, 2);
        x.ill(0);
        x.go(1);
        c.due("ILL, not behind that ROUND", x.skill(0, 0), 3);
        x.ill(0);
        x.go(1);
        for (int t = 0; t < 2; t++) {
            c.due("ILL, in " + t, x.skill(0, t), 2);
            c.due("works at none, in " + t, x.skill(1, t), 2);
        }
        c.due("who worked, in that ROUND's", x.skill(2, 1), 4);
        c.due("who worked, in the other", x.skill(2, 0), 3);
    }

    // ---- promise 10: places

    private static void goesBehindThatWorkedAt() {
        c.sentence("10: to the place behind that whose TRADE it works at (behind the last one the first)");
        String told = "trade 0 1;trade 0 1;trade 0 1;person;wheel 2 0 1;";
        int[] skipsNone = {1, 2, 0}, skipsTwo = {2, 2, 0}, skipsOne = {1, 2, 1}, skipsTwoAndOne = {2, 2, 2};
        for (int k = 0; k < 3; k++) {
            String at = told + "at 0 " + k + ";";
            c.due("skips none, at " + k, placeBehind(at), skipsNone[k]);
            c.due("skips 2, at " + k, placeBehind(at + "skip 0 2;"), skipsTwo[k]);
            c.due("skips 1, at " + k, placeBehind(at + "skip 0 1;"), skipsOne[k]);
            c.due("skips 2 and 1, at " + k, placeBehind(at + "skip 0 2;skip 0 1;"), skipsTwoAndOne[k]);
        }
        c.due("of one TRADE", placeBehind("trade 0 1;person;"), 0);
        TradeWheel x = Scenes.full();
        for (int r = 1; r <= 12; r++) {
            x.go(1);
            for (int p = 0; p < 6; p++) c.due(p + " behind " + r, x.person(p, 0), (p + r) % 6);
        }
    }

    private static int placeBehind(String told) {
        TradeWheel x = Checks.of(told);
        x.go(1);
        return x.person(0, 0);
    }

    private static void goesBehindItsOwnPlace() {
        c.sentence("10: who works at none: behind its own");
        for (int k = 0; k < 3; k++) {
            c.due("at " + k, placeBehind("trade 0 1;trade 0 1;trade 0 1;person;skip 0 0;skip 0 1;skip 0 2;at 0 " + k + ";"), (k + 1) % 3);
        }
        c.due("of one TRADE", placeBehind("trade 0 1;person;skip 0 0;"), 0);
    }

    private static void goesOnIfIll() {
        c.sentence("10: ill ones, too");
        TradeWheel x = Checks.of("trade 0 1;trade 0 1;trade 0 1;person;person;person;skip 1 1;skip 2 0;skip 2 1;skip 2 2;");
        for (int p = 0; p < 3; p++) x.ill(p);
        x.go(1);
        c.due("skips none, at 0", x.person(0, 0), 1);
        c.due("skips that of its place, at 1", x.person(1, 0), 0);
        c.due("skips all, at 2", x.person(2, 0), 0);
        for (int p = 0; p < 3; p++) c.due(p + " learned nothing", x.skill(p, 0) + x.skill(p, 1) + x.skill(p, 2), 9);
    }

    private static void overBehindOneRound() {
        c.sentence("10: Helps are over, nobody is ILL, it is the next ROUND");
        for (int n : new int[] {1, 2, 92}) {
            TradeWheel x = Scenes.busy();
            x.go(n);
            c.due("helps behind " + n, x.count(2), 0);
            c.due("ill ones behind " + n, x.count(3), 0);
            c.due("ROUND", x.now(0), 7 + n);
        }
        TradeWheel x = Checks.of(ONE + "skill 2 0 9;");
        x.help(2, 0);
        x.ill(1);
        c.due("in that ROUND", x.go(1), 99 - 9);
        c.due("in the next", x.go(1), 99 - 4 - 3);
    }

    // ---- promise 11

    private static void helpOfTwoThatThereAre() {
        c.sentence("11: HELP of p for q: 1. BAD (alike, too)");
        c.due("the first, the last", Scenes.full().help(0, 5), 1);
        c.due("the last, the first", Scenes.full().help(5, 0), 1);
        for (int p = 0; p < 4; p++) {
            int one = p;
            c.changesNothing("alike " + p, Scenes::busy, x -> x.help(one, one), BAD);
        }
        for (int bad : Scenes.outside(0, 3)) {
            c.changesNothing("p " + bad, Scenes::busy, x -> x.help(bad, 1), BAD);
            c.changesNothing("q " + bad, Scenes::busy, x -> x.help(0, bad), BAD);
            c.changesNothing("both " + bad, Scenes::busy, x -> x.help(bad, bad), BAD);
        }
        for (int bad : Scenes.outside(0, 5)) {
            c.due("of six, p " + bad, Scenes.full().help(bad, 0), BAD);
            c.due("of six, q " + bad, Scenes.full().help(0, bad), BAD);
        }
        c.changesNothing("nobody", Scenes::steady, x -> x.help(0, 1), BAD);
        // Both would be STATE, if they were two that there are: 1 helps 0, and 2 is helped.
        c.changesNothing("BAD ahead of STATE, p helps", Scenes::busy, x -> x.help(1, 4), BAD);
        c.changesNothing("BAD ahead of STATE, q is helped", Scenes::busy, x -> x.help(4, 0), BAD);
        c.changesNothing("BAD ahead of STATE, alike", Scenes::busy, x -> x.help(1, 1), BAD);
    }

    private static void helpOfOneAtMost() {
        c.sentence("11: STATE: p helps already, or q is helped already");
        // In busy() 1 helps 0, and 3 helps 2.
        c.changesNothing("p helps another", Scenes::busy, x -> x.help(1, 2), STATE);
        c.changesNothing("p helps, q is not helped", Scenes::busy, x -> x.help(1, 3), STATE);
        c.changesNothing("q is helped, p helps nobody", Scenes::busy, x -> x.help(2, 0), STATE);
        c.changesNothing("the same again", Scenes::busy, x -> x.help(1, 0), STATE);
        c.changesNothing("the last", Scenes::busy, x -> x.help(3, 1), STATE);
        TradeWheel x = Scenes.busy();
        c.due("p is helped, q helps: neither is in the way", x.help(0, 1), 1);
        c.due("the other two", x.help(2, 3), 1);
        c.due("helps", x.count(2), 4);
        x.go(1);
        c.due("behind the ROUND, p helps again", x.help(1, 2), 1);
        c.due("and q is helped again", x.help(2, 0), 1);
    }

    private static void helpInARing() {
        c.sentence("11: q has one at most, p helps one at most");
        TradeWheel x = Scenes.full();
        for (int p = 0; p < 6; p++) c.due(p + " helps the next", x.help(p, (p + 1) % 6), 1);
        for (int p = 0; p < 6; p++) {
            for (int q = 0; q < 6; q++) c.due(p + " helps " + q, x.help(p, q), p == q ? BAD : STATE);
        }
        c.due("helps", x.count(2), 6);
        x.go(1);
        for (int p = 0; p < 6; p++) c.due("FAVOUR for " + p, x.favours((p + 1) % 6, p), 1);
    }

    private static void helpIsOfNoUseIfOneIsIll() {
        c.sentence("11: it is of no use, if either is ILL");
        int[] lacks = {99 - 9 - 3, 99 - 3 - 3, 99 - 3, 99 - 3};
        for (int ills = 0; ills < 4; ills++) {
            TradeWheel x = Checks.of(ONE + "skill 2 0 9;");
            x.help(2, 0);
            if ((ills & 1) != 0) x.ill(2);
            if ((ills & 2) != 0) x.ill(0);
            c.due("ILL: " + ills, x.go(1), lacks[ills]);
            c.due("a FAVOUR", x.favours(0, 2), 1);
        }
        TradeWheel x = Checks.of(ONE + "skill 2 0 9;");
        x.ill(1);
        x.help(2, 0);
        c.due("another is ILL", x.go(1), 99 - 9);
    }

    private static void helpIsOwedAlways() {
        c.sentence("11: q owes p a FAVOUR more as that ROUND goes by (also if it was no use)");
        TradeWheel x = Checks.of(ONE + "skill 1 0 0;");
        x.help(1, 0);
        c.due("not yet", x.favours(0, 1), 0);
        c.due("of less SKILL", x.go(1), 99 - 3);
        c.due("owed", x.favours(0, 1), 1);
        x.help(0, 2);
        x.go(3);
        c.due("for who works at none", x.favours(2, 0), 1);
        c.due("the first stays", x.favours(0, 1), 1);
        c.due("not the other way", x.favours(1, 0), 0);
    }

    private static void helpAndIllWithoutRounds() {
        c.sentence("11, 12: in the ROUND that comes; no STATE is told for ROUND 99 or no TRADES");
        TradeWheel x = Scenes.steadyAt(99);
        c.due("nobody to be ILL", x.ill(0), BAD);
        x = Scenes.last();
        c.due("help at 99", x.help(0, 1), 1);
        c.due("ill at 99", x.ill(1), 1);
        c.due("go", x.go(1), STATE);
        c.due("helps stay", x.count(2), 2);
        c.due("no FAVOUR more", x.favours(0, 1), Scenes.last().favours(0, 1));
        x = Scenes.idle();
        c.due("help without TRADES", x.help(1, 2), 1);
        c.due("ill without TRADES", x.ill(0), 1);
        c.due("no ROUND goes by", x.favours(2, 1), 0);
    }

    // ---- promise 12

    private static void illOnceOrAgain() {
        c.sentence("12: It is ILL: 1; it was already: 0 (it stays so)");
        TradeWheel x = Scenes.full();
        for (int p = 0; p < 6; p++) {
            c.due(p + " is ILL", x.ill(p), 1);
            c.due("ill ones", x.count(3), p + 1);
            for (int q = 0; q < 6; q++) c.due(q + " is", x.person(q, 2), q <= p ? 1 : 0);
        }
        for (int p = 0; p < 6; p++) {
            int one = p;
            c.due(p + " again", x.ill(p), 0);
            c.due(p + " stays so", x.person(p, 2), 1);
            c.changesNothing("again, among others", () -> illAmongOthers(one), y -> y.ill(one), 0);
        }
        x.go(1);
        for (int p = 0; p < 6; p++) c.due(p + " in the next ROUND", x.ill(p), 1);
    }

    private static TradeWheel illAmongOthers(int p) {
        TradeWheel x = Scenes.full();
        x.ill(p);
        x.help(p, (p + 1) % 6);
        return x;
    }

    private static void illThatThereAre() {
        c.sentence("12: BAD");
        for (int p : Scenes.outside(0, 3)) c.changesNothing("p " + p, Scenes::busy, x -> x.ill(p), BAD);
        for (int p : Scenes.outside(0, 5)) c.changesNothing("of six, p " + p, Scenes::full, x -> x.ill(p), BAD);
        // 32 and more bits on, a shift would come back to who there is.
        for (int p : new int[] {32, 33, 64, -32}) c.changesNothing("p " + p, Scenes::full, x -> x.ill(p), BAD);
        c.changesNothing("nobody", Scenes::steady, x -> x.ill(0), BAD);
    }

    private static void illMakesNothing() {
        c.sentence("12: told for the ROUND that comes: each one who is not ILL MAKES");
        TradeWheel x = Checks.of(ONE);
        x.ill(0);
        c.due("one is ILL", x.go(1), 99 - 3);
        c.due("its SKILL does not grow", x.skill(0, 0), 3);
        c.due("well again", x.go(1), 99 - 3 - 4);
        x.ill(0);
        x.ill(1);
        x.ill(2);
        c.due("all are ILL", x.go(1), 99);
        c.due("nobody is ILL then", x.count(3), 0);
    }
}
