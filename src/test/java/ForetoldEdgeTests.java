import java.util.function.ToLongFunction;

/** Promises 17 to 22 (what is FORETOLD) at their edges: a test for each sentence that names one. */
public final class ForetoldEdgeTests {
    private static final int BAD = TradeWheel.BAD, STATE = TradeWheel.STATE, NONE = TradeWheel.NONE;
    private static final String SIX_TRADES = Scenes.SIX_TRADES, SIX_PEOPLE = Scenes.SIX_PEOPLE;
    private static final int[] SPANS = {1, 2, 39, 40};
    private static final int[] ROUNDS = {0, 1, 58, 59, 60, 96, 97, 98, 99};
    /**
     * Two who work by turns. With FADE 1, in even ROUNDS each has SKILL 3 in both TRADES, and its number as its place;
     * in odd ones SKILL 4 in that TRADE of its number, 2 in the other, and the other's place.
     */
    private static final String TURNS = "trade 99 1;trade 0 1;person;person;";

    private static final Checks c = new Checks("ForetoldEdgeTests");

    public static void main(String[] args) {
        foretellingChangesNothing();
        spansOneTo40();
        whatIsZeroOrOne();
        foretoldNeedsTrades();
        foretoldIsBadAheadOfState();
        lacksAsManyRoundsAsAreLeft();
        lacksWhatGoBrings();
        lacksWithHelpsAndIllOnesInTheFirst();
        bestAsManyRoundsAsAreLeft();
        bestOfOneToSixTrades();
        bestOfSeveralIsTheFirst();
        bestByOneLess();
        bestLeavesPlacesTheirNumbers();
        taughtAsManyRoundsAsAreLeft();
        taughtBelowNine();
        taughtNoneIfNotLess();
        taughtOfSeveralIsTheFirst();
        taughtNow();
        standsInWhoThereIs();
        standsInAsManyRoundsAsAreLeft();
        standsInNobodyIfNoWorse();
        standsInOfSeveralIsTheLeast();
        standsInBesidesThoseTold();
        madeByFromNowTo99();
        madeByMarkZeroTo9();
        madeByTradesThatThereAre();
        madeByAsBits();
        madeByWhoWorksAndIsNotIll();
        againOneTo60();
        againPastRound99();
        againWithoutTrades();
        againOfAll();
        againNoneIll();
        c.close();
    }

    // ---- what holds for all that is foretold

    private static void foretellingChangesNothing() {
        c.sentence("17 to 22: FORETOLD from NOW");
        unchanged("lacking", x -> x.lacking(40, 0));
        unchanged("falling", x -> x.lacking(40, 1));
        unchanged("best", x -> x.best(40, 0));
        unchanged("best, LACKING", x -> x.best(40, 1));
        unchanged("taught", x -> x.taught(40, 0));
        unchanged("taught, LACKING", x -> x.taught(40, 1));
        unchanged("standsIn", x -> x.standsIn(1, 40));
        unchanged("standsIn, ILL already", x -> x.standsIn(3, 40));
        unchanged("madeBy", x -> x.madeBy(1, 9, 99));
        unchanged("madeBy NOW", x -> x.madeBy(1, 3, x.now(0)));
        unchanged("again", TradeWheel::again);
    }

    private static void unchanged(String call, ToLongFunction<TradeWheel> made) {
        c.changesNothing(call, Scenes::busy, made, made.applyAsLong(Scenes.busy()));
        c.changesNothing(call + " at ROUND 99", Scenes::last, made, made.applyAsLong(Scenes.last()));
    }

    private static void spansOneTo40() {
        c.sentence("17 to 20: n ROUNDS, 1 .. 40. BAD");
        for (int n : Scenes.outside(1, 40)) {
            for (int what = 0; what < 2; what++) {
                int kind = what;
                c.changesNothing("lacking " + n, Scenes::busy, x -> x.lacking(n, kind), BAD);
                c.changesNothing("best " + n, Scenes::busy, x -> x.best(n, kind), BAD);
                c.changesNothing("taught " + n, Scenes::busy, x -> x.taught(n, kind), BAD);
            }
            c.changesNothing("standsIn " + n, Scenes::busy, x -> x.standsIn(1, n), BAD);
        }
        for (int n : SPANS) {
            c.due("lacking " + n, Scenes.steady().lacking(n, 0), n);
            c.due("falling " + n, Scenes.steady().lacking(n, 1), n);
            c.due("best " + n, Scenes.steady().best(n, 1), n);
            // SKILL 3 grows to 9 in six ROUNDS, SKILL 4 in five: six less lacks at most.
            TradeWheel x = Checks.of("trade 99 1;person;");
            x.tune(1, 0);
            int made = n == 1 ? 3 : n == 2 ? 7 : 33 + 9 * (n - 6);
            c.due("taught " + n, x.taught(n, 1), 99 * n - made - Math.min(n, 6));
            c.due("standsIn " + n, x.standsIn(0, n), 0);
        }
    }

    private static void whatIsZeroOrOne() {
        c.sentence("17 to 19: what = 0, 1. BAD");
        for (int what : Scenes.outside(0, 1)) {
            for (int n : new int[] {1, 40}) {
                c.changesNothing("lacking, what " + what, Scenes::busy, x -> x.lacking(n, what), BAD);
                c.changesNothing("best, what " + what, Scenes::busy, x -> x.best(n, what), BAD);
                c.changesNothing("taught, what " + what, Scenes::busy, x -> x.taught(n, what), BAD);
            }
        }
        c.due("LACKING", Checks.of("trade 20 1;").lacking(2, 0), 40);
        c.due("FALLING", Checks.of("trade 20 1;").lacking(2, 1), 2);
        c.due("the order", Checks.of("trade 20 1;").best(2, 0), 0);
        c.due("LACKING by it", Checks.of("trade 20 1;").best(2, 1), 40);
        c.due("10 times who, and the TRADE", Checks.of("trade 0 1;trade 20 1;person;person;").taught(1, 0), 11);
        c.due("LACKING then", Checks.of("trade 0 1;trade 20 1;person;person;").taught(1, 1), 16);
    }

    private static void foretoldNeedsTrades() {
        c.sentence("17 to 20, 22: STATE: no TRADES");
        for (int n : SPANS) {
            for (int what = 0; what < 2; what++) {
                int kind = what;
                c.changesNothing("lacking " + n, Scenes::idle, x -> x.lacking(n, kind), STATE);
                c.changesNothing("best " + n, Scenes::idle, x -> x.best(n, kind), STATE);
                c.changesNothing("taught " + n, Scenes::idle, x -> x.taught(n, kind), STATE);
                c.changesNothing("new, lacking " + n, TradeWheel::new, x -> x.lacking(n, kind), STATE);
            }
            for (int p = 0; p < 3; p++) {
                int one = p;
                c.changesNothing("standsIn " + p, Scenes::idle, x -> x.standsIn(one, n), STATE);
            }
        }
        c.changesNothing("again", Scenes::idle, TradeWheel::again, STATE);
        c.changesNothing("new, again", TradeWheel::new, TradeWheel::again, STATE);
    }

    private static void foretoldIsBadAheadOfState() {
        c.sentence("17 to 20: BAD; STATE");
        for (int n : Scenes.outside(1, 40)) {
            c.changesNothing("lacking " + n, Scenes::idle, x -> x.lacking(n, 0), BAD);
            c.changesNothing("best " + n, Scenes::idle, x -> x.best(n, 0), BAD);
            c.changesNothing("taught " + n, Scenes::idle, x -> x.taught(n, 0), BAD);
            c.changesNothing("standsIn " + n, Scenes::idle, x -> x.standsIn(0, n), BAD);
        }
        for (int what : Scenes.outside(0, 1)) {
            c.changesNothing("lacking, what " + what, Scenes::idle, x -> x.lacking(1, what), BAD);
            c.changesNothing("best, what " + what, Scenes::idle, x -> x.best(1, what), BAD);
            c.changesNothing("taught, what " + what, Scenes::idle, x -> x.taught(1, what), BAD);
        }
        for (int p : Scenes.outside(0, 2)) c.changesNothing("standsIn, p " + p, Scenes::idle, x -> x.standsIn(p, 1), BAD);
    }

    // ---- promise 17

    private static void lacksAsManyRoundsAsAreLeft() {
        c.sentence("17: n ROUNDS, as many as are left");
        for (int round : ROUNDS) {
            for (int n : SPANS) {
                c.due("LACKING at " + round + " in " + n, Scenes.steadyAt(round).lacking(n, 0), Math.min(n, 99 - round));
                c.due("FALLING at " + round + " in " + n, Scenes.steadyAt(round).lacking(n, 1), Math.min(n, 99 - round));
            }
        }
    }

    private static void lacksWhatGoBrings() {
        c.sentence("17: what LACKS in these, all TRADES together; how many houses FALL");
        for (int n : SPANS) {
            TradeWheel x = Scenes.busy(), y = Scenes.busy();
            int fell = y.now(2);
            c.due("LACKING in " + n, x.lacking(n, 0), y.go(n));
            c.due("FALLING in " + n, x.lacking(n, 1), y.now(2) - fell);
        }
        int[] falls = {0, 1, 1};
        for (int need = 9; need <= 11; need++) c.due("FALLING by " + need, Checks.of("trade " + need + " 1;").lacking(1, 1), falls[need - 9]);
    }

    private static void lacksWithHelpsAndIllOnesInTheFirst() {
        c.sentence("17: helps, ill ones as told for the first ROUND");
        TradeWheel x = Checks.of("trade 99 1;person;person;skip 1 0;skill 1 0 9;");
        x.tune(0, 0);
        x.help(1, 0);
        c.due("helped in one", x.lacking(1, 0), 99 - 9);
        c.due("not in the second", x.lacking(2, 0), 2 * 99 - 9 - 4);
        x.ill(0);
        c.due("ILL in one", x.lacking(1, 0), 99);
        c.due("not in the second", x.lacking(2, 0), 2 * 99 - 3);
    }

    // ---- promise 18

    private static void bestAsManyRoundsAsAreLeft() {
        c.sentence("18: in n ROUNDS from NOW, as many as are left");
        for (int round : ROUNDS) {
            for (int n : SPANS) {
                c.due("LACKING at " + round + " in " + n, Scenes.steadyAt(round).best(n, 1), Math.min(n, 99 - round));
                c.due("the order", Scenes.steadyAt(round).best(n, 0), 0);
            }
        }
        TradeWheel x = turnsAt(98);
        c.due("at 98, the order", x.best(40, 0), 1);
        c.due("at 98, LACKING", x.best(40, 1), 96);
        x.go(1);
        c.due("at 99, the first of all", x.best(40, 0), 1);
        c.due("at 99, LACKING", x.best(40, 1), 0);
        // TRADE 0 first: person 1 makes 2 of it at 97, person 0 makes 3 at 98; TRADE 1 first: 4 and 1.
        c.due("at 97, of two alike the first", turnsAt(97).best(40, 0), 1);
        c.due("at 97, LACKING", turnsAt(97).best(40, 1), 99 - 2 + 99 - 3);
        c.due("at 97, in one", turnsAt(97).best(1, 0), 10);
    }

    /** TURNS with FADE 1 and no WINTER, so many ROUNDS on. */
    private static TradeWheel turnsAt(int round) {
        TradeWheel x = Checks.of(TURNS);
        x.tune(0, 1);
        x.tune(1, 0);
        x.go(round);
        return x;
    }

    private static void bestOfOneToSixTrades() {
        c.sentence("18: of all orders");
        // Who stands at place p is good at TRADE last - p alone, so that the last of all orders is the best.
        int[] last = {0, 10, 210, 3210, 43210, 543210};
        int[] first = {0, 1, 12, 123, 1234, 12345};
        for (int trades = 1; trades <= 6; trades++) {
            StringBuilder told = new StringBuilder("trade 9 1;".repeat(trades) + "person;".repeat(trades));
            for (int p = 0; p < trades; p++) told.append("skill ").append(p).append(' ').append(trades - 1 - p).append(" 9;");
            TradeWheel x = Checks.of(told.toString());
            c.due("the last of " + trades, x.best(1, 0), last[trades - 1]);
            c.due("by it nothing lacks", x.best(1, 1), 0);
            c.due("the first of " + trades, Checks.of("trade 9 1;".repeat(trades)).best(1, 0), first[trades - 1]);
        }
    }

    private static void bestOfSeveralIsTheFirst() {
        c.sentence("18: of several the first");
        c.due("all alike", Checks.of("trade 9 1;trade 9 1;trade 9 1;wheel 2 1 0;person;").best(3, 0), 12);
        // Only the TRADE at place 0 is worked at: those with 1 there are alike.
        c.due("two alike", Checks.of("trade 0 1;trade 9 1;trade 0 1;wheel 1 2 0;person;").best(1, 0), 102);
        c.due("of six, 120 alike", Checks.of(SIX_TRADES.replace("0 1", "9 1").replaceFirst("9 1;$", "9 2;") + "person;").best(1, 0), 501234);
    }

    private static void bestByOneLess() {
        c.sentence("18: with which LACKING is least");
        // Person 0 makes 3, if TRADE 0 is first; if TRADE 1 is, one less, as much, one more.
        int[] orders = {1, 1, 10};
        int[] lacks = {14 - 3, 14 - 3, 14 - 4};
        for (int s = 2; s <= 4; s++) {
            TradeWheel x = Checks.of("trade 7 1;trade 7 1;person;skill 0 1 " + s + ";");
            c.due("the order, by SKILL " + s, x.best(1, 0), orders[s - 2]);
            c.due("LACKING, by SKILL " + s, x.best(1, 1), lacks[s - 2]);
        }
    }

    private static void bestLeavesPlacesTheirNumbers() {
        c.sentence("18: each one's place stays its number");
        TradeWheel x = Checks.of("trade 0 1;trade 9 1;trade 0 1;person;at 0 2;");
        c.due("TRADE 1 at place 2", x.best(1, 0), 21);
        c.due("by it", x.best(1, 1), 6);
        x.oil(0);
        c.due("whatever THE WHEEL is", x.best(1, 0), 21);
        x.go(1);
        c.due("TRADE 1 at place 0", x.best(1, 0), 102);
    }

    // ---- promise 19

    private static void taughtAsManyRoundsAsAreLeft() {
        c.sentence("19: LACKING in n ROUNDS, as many as are left");
        c.due("at 98", turnsAt(98).taught(40, 0), 0);
        c.due("at 98, LACKING", turnsAt(98).taught(40, 1), 95);
        c.due("at 98, in one", turnsAt(98).taught(1, 1), 95);
        c.due("at 99", turnsAt(99).taught(40, 0), NONE);
        c.due("at 99, LACKING", turnsAt(99).taught(40, 1), NONE);
        // Person 1 makes 2 of TRADE 0 at 97, person 0 makes 3 at 98: one more is of the same use to both.
        c.due("at 97", turnsAt(97).taught(40, 0), 0);
        c.due("at 97, LACKING", turnsAt(97).taught(40, 1), 99 - 2 + 99 - 4);
        c.due("at 97, in one", turnsAt(97).taught(1, 0), 10);
    }

    private static void taughtBelowNine() {
        c.sentence("19: (SKILL below 9)");
        int[] want = {0, 0, NONE};
        for (int s = 7; s <= 9; s++) {
            TradeWheel x = Checks.of("trade 99 1;person;skill 0 0 " + s + ";");
            c.due("SKILL " + s, x.taught(1, 0), want[s - 7]);
            c.due("LACKING", x.taught(1, 1), s < 9 ? 99 - s - 1 : NONE);
        }
        c.due("the next one is below", Checks.of("trade 99 1;person;person;skill 0 0 9;skill 1 0 8;").taught(1, 0), 10);
        c.due("none is", Checks.of("trade 99 1;person;person;skill 0 0 9;skill 1 0 9;").taught(1, 0), NONE);
    }

    private static void taughtNoneIfNotLess() {
        c.sentence("19: NONE, if it is not less than it is");
        // SKILL 3 makes 3: one more is of use only if more is needed.
        int[] want = {NONE, NONE, 0, 0};
        int[] lacks = {NONE, NONE, 0, 1};
        for (int need = 2; need <= 5; need++) {
            TradeWheel x = Checks.of("trade " + need + " 1;person;");
            c.due("NEED " + need, x.taught(1, 0), want[need - 2]);
            c.due("NEED " + need + ", LACKING", x.taught(1, 1), lacks[need - 2]);
        }
        c.due("nobody", Checks.of("trade 9 1;").taught(40, 0), NONE);
        c.due("who skips it", Checks.of("trade 9 1;person;skip 0 0;").taught(40, 0), NONE);
        TradeWheel x = Checks.of("trade 9 1;person;");
        x.ill(0);
        c.due("who is ILL", x.taught(1, 0), NONE);
        c.due("who is well in the next", x.taught(2, 0), 0);
    }

    private static void taughtOfSeveralIsTheFirst() {
        c.sentence("19: of several the first by who, then by TRADE");
        c.due("who", Checks.of("trade 99 1;person;person;person;skip 0 0;").taught(1, 0), 10);
        c.due("TRADE", Checks.of("trade 99 1;trade 99 1;person;").taught(2, 0), 0);
        c.due("who ahead of TRADE", Checks.of("trade 99 1;trade 99 1;person;person;at 0 1;at 1 0;").taught(1, 0), 1);
        c.due("the last of both", Checks.of("trade 0 1;".repeat(5) + "trade 99 1;" + SIX_PEOPLE).taught(1, 0), 55);
        c.due("one less beats the first", Checks.of("trade 99 1;trade 99 2;person;person;").taught(1, 0), 11);
    }

    private static void taughtNow() {
        c.sentence("19: by whose SKILL one more NOW");
        // Who helps is worth teaching: with SKILL 4 there are 4 made instead of 3.
        TradeWheel x = Checks.of("trade 9 1;person;person;skip 1 0;skill 0 0 0;");
        x.help(1, 0);
        c.due("who helps", x.taught(1, 0), 10);
        c.due("LACKING", x.taught(1, 1), 5);
        x.ill(1);
        c.due("who is of no use", x.taught(1, 0), 0);
        c.due("LACKING then", x.taught(1, 1), 8);
    }

    // ---- promise 20

    private static void standsInWhoThereIs() {
        c.sentence("20: standsIn. BAD");
        for (int p : Scenes.outside(0, 3)) c.changesNothing("p " + p, Scenes::busy, x -> x.standsIn(p, 1), BAD);
        for (int p : Scenes.outside(0, 5)) c.due("of six, p " + p, Scenes.full().standsIn(p, 40), BAD);
        for (int p = 0; p < 6; p++) c.due("of six, p " + p, Scenes.full().standsIn(p, 40), p);
        c.due("nobody", Scenes.steady().standsIn(0, 1), BAD);
    }

    private static void standsInAsManyRoundsAsAreLeft() {
        c.sentence("20: LACKING in n ROUNDS, as many as are left");
        for (int n : SPANS) {
            c.due("at 98, person 0 in " + n, turnsAt(98).standsIn(0, n), 1);
            c.due("at 98, person 1 in " + n, turnsAt(98).standsIn(1, n), 1);
            c.due("at 99, person 0 in " + n, turnsAt(99).standsIn(0, n), 0);
            c.due("at 99, person 1 in " + n, turnsAt(99).standsIn(1, n), 1);
        }
    }

    private static void standsInNobodyIfNoWorse() {
        c.sentence("20: one's own number: with nobody (first of all, where it is no worse than any)");
        for (int s = 0; s <= 2; s++) {
            // Who is well, person 1, makes s at its own place, and 1 at that of person 0.
            TradeWheel x = Checks.of("trade 9 1;trade 9 1;person;person;skill 1 0 1;skill 1 1 " + s + ";");
            c.due(s + " here or 1 there", x.standsIn(0, 1), s == 0 ? 1 : 0);
            // The same for person 1, whose own number is not the least.
            x = Checks.of("trade 9 1;trade 9 1;person;person;skill 0 1 1;skill 0 0 " + s + ";");
            c.due("1 there or " + s + " here", x.standsIn(1, 1), s == 0 ? 0 : 1);
        }
        c.due("all alike", Checks.of("trade 9 1;person;person;person;").standsIn(2, 1), 2);
        c.due("alone", Checks.of("trade 9 1;trade 9 1;person;").standsIn(0, 40), 0);
    }

    private static void standsInOfSeveralIsTheLeast() {
        c.sentence("20: of several the least number");
        String four = "trade 9 1;trade 0 1;trade 0 1;trade 0 1;person;person;person;person;";
        c.due("1, 2, 3 alike", Checks.of(four).standsIn(0, 1), 1);
        c.due("2, 3 alike", Checks.of(four + "skill 1 0 2;").standsIn(0, 1), 2);
        c.due("3 by one", Checks.of(four + "skill 3 0 4;").standsIn(0, 1), 3);
        c.due("0, 1, 3 alike", Checks.of(four + "at 2 0;at 0 2;").standsIn(2, 1), 0);
        c.due("1, 3 alike", Checks.of(four + "at 2 0;at 0 2;skill 0 0 0;").standsIn(2, 1), 1);
    }

    private static void standsInBesidesThoseTold() {
        c.sentence("20: ILL in the ROUND that comes (besides those told)");
        String three = "trade 9 1;trade 0 1;trade 0 1;person;person;person;";
        TradeWheel x = Checks.of(three);
        x.ill(1);
        c.due("another is ILL", x.standsIn(0, 1), 2);
        x.ill(2);
        c.due("all others are ILL", x.standsIn(0, 1), 0);
        x = Checks.of(three);
        x.ill(0);
        c.due("it is ILL already", x.standsIn(0, 1), 1);
        x = Checks.of(three + "skill 1 0 0;skill 2 0 5;");
        x.help(2, 1);
        c.due("2 works with SKILL 5, and so does 1 with its help", x.standsIn(0, 1), 1);
        x.ill(2);
        c.due("but not, if 2 is ILL", x.standsIn(0, 1), 0);
    }

    // ---- promise 21

    private static void madeByFromNowTo99() {
        c.sentence("21: BAD (r NOW .. 99)");
        // Nobody makes anything before, and SKILL is 9 from ROUND 6 on.
        String one = "trade 1 1;person;";
        for (int now : new int[] {0, 1, 50, 98, 99}) {
            TradeWheel x = Checks.of(one);
            if (now > 0) x.go(now);
            for (int r : new int[] {now, Math.min(now + 1, 99), 98, 99}) {
                if (r >= now) c.due("at " + now + ", ROUND " + r, x.madeBy(0, Math.min(3 + r, 9), r), 1);
            }
            for (int r : new int[] {now - 1, 100, -1, Scenes.LOW, Scenes.HIGH, now + 256, now - 65536}) {
                c.due("at " + now + ", ROUND " + r, x.madeBy(0, Math.min(3 + now, 9), r), BAD);
            }
        }
        for (int r : Scenes.outside(7, 99)) c.changesNothing("ROUND " + r, Scenes::busy, x -> x.madeBy(0, 3, r), BAD);
        for (int r : Scenes.outside(99, 99)) c.changesNothing("at 99, ROUND " + r, Scenes::last, x -> x.madeBy(0, 3, r), BAD);
    }

    private static void madeByMarkZeroTo9() {
        c.sentence("21: BAD (mark 0 .. 9)");
        for (int mark : Scenes.outside(0, 9)) c.changesNothing("mark " + mark, Scenes::busy, x -> x.madeBy(0, mark, 7), BAD);
        for (int s = 0; s <= 9; s++) {
            TradeWheel x = Checks.of("trade 1 1;person;skill 0 0 " + s + ";");
            for (int mark = 0; mark <= 9; mark++) c.due("SKILL " + s + ", mark " + mark, x.madeBy(0, mark, 0), mark == s ? 1 : 0);
        }
    }

    private static void madeByTradesThatThereAre() {
        c.sentence("21: work at a TRADE. BAD");
        for (int t : Scenes.outside(0, 2)) c.changesNothing("t " + t, Scenes::busy, x -> x.madeBy(t, 3, 7), BAD);
        for (int t : Scenes.outside(0, 5)) c.due("of six, t " + t, Scenes.full().madeBy(t, 3, 0), BAD);
        for (int t : new int[] {-9, -1, 0, 1}) c.changesNothing("no TRADES, t " + t, Scenes::idle, x -> x.madeBy(t, 3, 0), BAD);
        c.due("nobody", Scenes.steady().madeBy(0, 3, 0), 0);
    }

    private static void madeByAsBits() {
        c.sentence("21: as bits");
        TradeWheel x = Scenes.full();
        for (int t = 0; t < 6; t++) c.due("TRADE " + t, x.madeBy(t, 3, 0), 1 << t);
        x = Checks.of("trade 0 1;" + SIX_PEOPLE);
        c.due("all six", x.madeBy(0, 3, 0), 63);
        c.due("in the next", x.madeBy(0, 4, 1), 63);
        c.due("not the mark of NOW", x.madeBy(0, 3, 1), 0);
    }

    private static void madeByWhoWorksAndIsNotIll() {
        c.sentence("21: those who work at a TRADE and are not ILL then");
        TradeWheel x = Checks.of("trade 0 1;trade 0 1;person;person;person;person;skip 2 0;skip 3 0;skip 3 1;");
        x.tune(0, 0);
        c.due("TRADE 0", x.madeBy(0, 3, 0), 1);
        c.due("TRADE 1, with who skips 0", x.madeBy(1, 3, 0), 2 + 4);
        x.ill(0);
        x.ill(2);
        c.due("TRADE 0, ILL", x.madeBy(0, 3, 0), 0);
        c.due("TRADE 1, one ILL", x.madeBy(1, 3, 0), 2);
        c.due("well in the next, with the same SKILL", x.madeBy(1, 3, 1), 1 + 4);
        x.help(0, 1);
        c.due("who helps works as else", x.madeBy(1, 3, 0), 2);
        x.go(1);
        c.due("NOW", x.madeBy(1, 3, 1), 1 + 4);
        c.due("the other TRADE", x.madeBy(0, 3, 1), 2);
        x = Checks.of("trade 0 1;person;person;skill 1 0 9;");
        x.help(1, 0);
        c.due("by one's own SKILL, helped or not", x.madeBy(0, 3, 0), 1);
        c.due("not by that of who helps", x.madeBy(0, 9, 0), 2);
    }

    // ---- promise 22

    private static void againOneTo60() {
        c.sentence("22: the fewest ROUNDS (1 .. 60)");
        c.due("nobody", Scenes.steady().again(), 1);
        c.due("of one TRADE", Checks.of("trade 0 1;person;").again(), 1);
        for (int trades = 2; trades <= 6; trades++) {
            String told = "trade 0 1;".repeat(trades) + "person;";
            c.due("of " + trades + " TRADES", Checks.of(told).again(), trades);
            c.due("all but one", Checks.of(told + "skip 0 1;").again(), trades - 1);
        }
        String six = SIX_TRADES + SIX_PEOPLE + "skip 1 0;skip 2 0;skip 2 1;";
        c.due("six, five and four", Checks.of(six).again(), 60);
        c.due("six and four", Checks.of(SIX_TRADES + "person;person;skip 1 0;skip 1 1;").again(), 12);
        c.due("six and five", Checks.of(SIX_TRADES + "person;person;skip 1 0;").again(), 30);
    }

    private static void againPastRound99() {
        c.sentence("22: past ROUND 99, too");
        for (int round : new int[] {0, 38, 39, 40, 98, 99}) {
            TradeWheel x = Checks.of(SIX_TRADES + SIX_PEOPLE + "skip 1 0;skip 2 0;skip 2 1;");
            if (round > 0) x.go(round);
            c.due("at " + round, x.again(), 60);
            c.due("ROUND stays", x.now(0), round);
        }
    }

    private static void againWithoutTrades() {
        c.sentence("22: STATE: no TRADES");
        c.due("PEOPLE alone", Checks.of("person;").again(), STATE);
        c.due("TRADES alone", Checks.of("trade 0 1;trade 0 1;").again(), 1);
    }

    private static void againOfAll() {
        c.sentence("22: behind which all are to work at the same TRADES as NOW");
        c.due("who works at none is always as before", Checks.of("trade 0 1;trade 0 1;person;skip 0 0;skip 0 1;").again(), 1);
        c.due("with one who does not", Checks.of("trade 0 1;trade 0 1;person;person;skip 0 0;skip 0 1;").again(), 2);
        // TRADES, not places: who stands at 0 and skips it works at 1, as behind two ROUNDS at place 1.
        c.due("another place", Checks.of("trade 0 1;trade 0 1;trade 0 1;person;skip 0 0;").again(), 2);
        c.due("the last one alone", Checks.of(SIX_TRADES + SIX_PEOPLE + "skip 0 1;skip 0 2;skip 0 3;skip 0 4;skip 0 5;"
            + "skip 1 0;skip 1 2;skip 1 3;skip 1 4;skip 1 5;skip 2 0;skip 2 1;skip 2 3;skip 2 4;skip 2 5;"
            + "skip 3 0;skip 3 1;skip 3 2;skip 3 4;skip 3 5;skip 4 0;skip 4 1;skip 4 2;").again(), 6);
    }

    private static void againNoneIll() {
        c.sentence("22: none ILL");
        TradeWheel x = Checks.of("trade 0 1;trade 0 1;trade 0 1;person;person;skip 1 0;");
        x.go(1);
        int well = x.again();
        x.ill(0);
        x.ill(1);
        x.help(0, 1);
        c.due("ILL or not", x.again(), well);
        c.due("three and two", well, 6);
    }
}
