import java.util.List;

/** Promises 23 to 27 (kinds, IMAGES, THE TRACE) and the constants at their edges: a test for each sentence that names one. */
public final class KindEdgeTests {
    private static final int BAD = TradeWheel.BAD, STATE = TradeWheel.STATE, NO = TradeWheel.NO;
    private static final long[] ASKED = {1, 11, 101, 1101, 10011, 100001};

    private static final Checks c = new Checks("KindEdgeTests");

    public static void main(String[] args) {
        constantsAreTold();
        kindsZeroTo5();
        peopleThatThereAre();
        ratesWithoutTrades();
        ratesWithSixTrades();
        ratesByTheGreatestAndTheLeast();
        ratesBelowZero();
        ratesWhatIsNow();
        rateChangesTheTraceAlone();
        traceOfEachBodyOnce();
        traceStaysIfRefused();
        traceGoesOn();
        traceOf512Calls();
        imagesZeroAndOne();
        imagesThatWereKept();
        imagesOfTheirOwn();
        imagesOfSixAndSix();
        imagesKeptAnew();
        imagesHoldNothingElse();
        imagesOfRound99();
        imagesAreGoneWhenReadAnew();
        imagesStayBehindAFault();
        keepTellsTheRoundAndChangesNothing();
        c.close();
    }

    private static void constantsAreTold() {
        c.sentence("the constants");
        c.due("BAD", TradeWheel.BAD, -1);
        c.due("STATE", TradeWheel.STATE, -2);
        c.due("FULL", TradeWheel.FULL, -3);
        c.due("NONE", TradeWheel.NONE, -9);
        c.due("NO", TradeWheel.NO, -1000000);
    }

    // ---- promise 23

    private static void kindsZeroTo5() {
        c.sentence("23: kinds 0 .. 5. NO: BAD");
        for (int kind : Scenes.outside(0, 5)) c.changesNothing("kind " + kind, Scenes::busy, x -> x.rate(kind, 0), NO);
        // SKILLS 7, 4, 3, place 2, ROUND 0.
        TradeWheel x = Checks.of("trade 9 1;trade 9 1;trade 9 1;person;person;skill 1 0 7;skill 1 1 4;at 1 2;");
        int[] want = {14, 16, 21, 42, 13, 14};
        for (int kind = 0; kind <= 5; kind++) c.due("kind " + kind, x.rate(kind, 1), want[kind]);
    }

    private static void peopleThatThereAre() {
        c.sentence("23: RATE of a PERSON. NO: BAD");
        for (int kind = 0; kind <= 5; kind++) {
            int one = kind;
            for (int p : Scenes.outside(0, 3)) c.changesNothing("kind " + kind + " of " + p, Scenes::busy, x -> x.rate(one, p), NO);
            for (int p : new int[] {-1, 0, 1}) c.changesNothing("nobody, kind " + kind + " of " + p, Scenes::steady, x -> x.rate(one, p), NO);
            for (int p : Scenes.outside(0, 5)) c.due("of six, kind " + kind + " of " + p, Scenes.full().rate(kind, p), NO);
        }
        for (int bad : Scenes.outside(0, 5)) c.changesNothing("both " + bad, Scenes::busy, x -> x.rate(bad, bad), NO);
        c.due("the sixth", Scenes.full().rate(1, 5), 18 + 5);
    }

    private static void ratesWithoutTrades() {
        c.sentence("23: greatest SKILL (0 without TRADES), least SKILL (0 without TRADES)");
        for (int kind = 0; kind <= 5; kind++) {
            for (int p = 0; p < 3; p++) c.due("kind " + kind + " of " + p, Scenes.idle().rate(kind, p), 0);
        }
        int[] withOne = {3, 3, 6, 12, 0, 3};
        for (int kind = 0; kind <= 5; kind++) c.due("one TRADE, kind " + kind, Checks.of("trade 1 1;person;").rate(kind, 0), withOne[kind]);
    }

    private static void ratesWithSixTrades() {
        c.sentence("23: all its SKILLS added");
        String told = Scenes.SIX_TRADES + Scenes.SIX_PEOPLE;
        StringBuilder nines = new StringBuilder(told), noughts = new StringBuilder(told);
        for (int t = 0; t < 6; t++) {
            nines.append("skill 5 ").append(t).append(" 9;");
            noughts.append("skill 5 ").append(t).append(" 0;");
        }
        int[] most = {54, 59, 63, 126, 50, 54}, least = {0, 5, 0, 0, 5, 0};
        for (int kind = 0; kind <= 5; kind++) {
            c.due("all 9, kind " + kind, Checks.of(nines.toString()).rate(kind, 5), most[kind]);
            c.due("all 0, kind " + kind, Checks.of(noughts.toString()).rate(kind, 5), least[kind]);
        }
    }

    private static void ratesByTheGreatestAndTheLeast() {
        c.sentence("23: its greatest SKILL; its least SKILL");
        for (int t = 0; t < 6; t++) {
            c.due("greatest at " + t, Checks.of(Scenes.SIX_TRADES + "person;skill 0 " + t + " 4;").rate(2, 0), 19 + 4);
            c.due("least at " + t, Checks.of(Scenes.SIX_TRADES + "person;skill 0 " + t + " 2;").rate(4, 0), 17 - 2);
        }
    }

    private static void ratesBelowZero() {
        c.sentence("23: up less ROUND");
        TradeWheel x = Checks.of("trade 1 1;person;skip 0 0;skill 0 0 1;");
        x.tune(0, 0);
        int[] want = {1, 0, -1};
        for (int round = 0; round < 3; round++) {
            c.due("at ROUND " + round, x.rate(5, 0), want[round]);
            x.go(1);
        }
        x.go(99);
        c.due("at ROUND 99", x.rate(5, 0), 1 - 99);
    }

    private static void ratesWhatIsNow() {
        c.sentence("23: SKILLS, place, ROUND NOW");
        TradeWheel x = Checks.of("trade 9 1;trade 9 1;trade 9 1;person;person;skill 1 0 7;skill 1 1 4;at 1 2;");
        x.go(1);
        // TRADE 2 worked at: SKILLS 7, 4, 4, place 0, ROUND 1.
        int[] want = {15, 15, 22, 44, 11, 14};
        for (int kind = 0; kind <= 5; kind++) c.due("kind " + kind, x.rate(kind, 1), want[kind]);
        x.ill(1);
        x.help(1, 0);
        for (int kind = 0; kind <= 5; kind++) c.due("ILL, helping, kind " + kind, x.rate(kind, 1), want[kind]);
    }

    private static void rateChangesTheTraceAlone() {
        c.sentence("23: numbers are added to THE TRACE");
        for (int kind = 0; kind <= 5; kind++) {
            TradeWheel x = Scenes.busy();
            x.rate(kind, 1);
            List<String> got = Whole.of(x), want = Whole.of(Scenes.busy());
            c.same("all but its first line, kind " + kind, got.subList(1, got.size()), want.subList(1, want.size()));
        }
    }

    // ---- promise 27

    private static void traceOfEachBodyOnce() {
        c.sentence("27: as often as rate() asks that body: each once");
        for (int kind = 0; kind <= 5; kind++) {
            TradeWheel x = Scenes.full();
            c.due("at first", x.trace(), 0);
            x.rate(kind, 5);
            c.due("kind " + kind, x.trace(), ASKED[kind]);
            x.rate(kind, 0);
            c.due("kind " + kind + " twice", x.trace(), 2 * ASKED[kind]);
            TradeWheel y = Scenes.idle();
            y.rate(kind, 2);
            c.due("kind " + kind + " without TRADES", y.trace(), ASKED[kind]);
        }
    }

    private static void traceStaysIfRefused() {
        c.sentence("27: refused, and nothing changes");
        TradeWheel x = Scenes.full();
        x.rate(3, 0);
        for (int bad : Scenes.outside(0, 5)) {
            x.rate(bad, 0);
            x.rate(3, bad);
            c.due("THE TRACE", x.trace(), 1101);
        }
    }

    private static void traceGoesOn() {
        c.sentence("27: THE TRACE goes on, as behind back()");
        TradeWheel x = Checks.of("trade 1 1;person;");
        x.keep(0);
        x.rate(0, 0);
        x.back(0);
        c.due("behind back", x.trace(), 1);
        x.rate(1, 0);
        x.anew();
        c.due("behind anew", x.trace(), 12);
        x.rate(2, 0);
        Checks.say(x, "person;oops");
        x.read();
        c.due("behind a FAULT", x.trace(), 113);
        x.rate(3, 0);
        x.clear();
        x.read();
        c.due("behind read", x.trace(), 1214);
        x.go(1);
        x.best(1, 0);
        c.due("behind all else", x.trace(), 1214);
    }

    private static void traceOf512Calls() {
        c.sentence("27: an object is used for at most 512 calls");
        TradeWheel x = new TradeWheel();
        Checks.say(x, "person;");
        x.read();
        for (int call = 3; call < 512; call++) x.rate(5, 0);
        c.due("the 512th", x.trace(), 509L * 100001);
    }

    // ---- promises 24 and 25

    private static void imagesZeroAndOne() {
        c.sentence("24, 25: IMAGES 0, 1. BAD");
        for (int image : Scenes.outside(0, 1)) {
            c.changesNothing("keep " + image, Scenes::busy, x -> x.keep(image), BAD);
            c.changesNothing("back " + image, Scenes::busy, x -> x.back(image), BAD);
            c.changesNothing("new, keep " + image, TradeWheel::new, x -> x.keep(image), BAD);
            c.changesNothing("BAD ahead of STATE, back " + image, TradeWheel::new, x -> x.back(image), BAD);
        }
        for (int image = 0; image < 2; image++) {
            c.due("new, keep " + image, new TradeWheel().keep(image), 0);
            c.due("keep " + image, Scenes.busy().keep(image), 7);
        }
    }

    private static void imagesThatWereKept() {
        c.sentence("25: STATE: none was kept");
        for (int image = 0; image < 2; image++) {
            int one = image, other = 1 - image;
            c.changesNothing("none, back " + image, TradeWheel::new, x -> x.back(one), STATE);
            c.changesNothing("only the other, back " + image, () -> keptAlone(other), x -> x.back(one), STATE);
            c.due("back " + other, keptAlone(other).back(other), 2);
        }
    }

    private static TradeWheel keptAlone(int image) {
        TradeWheel x = Scenes.full();
        x.go(2);
        x.keep(image);
        x.go(3);
        return x;
    }

    private static void imagesOfTheirOwn() {
        c.sentence("25: All of that becomes as an IMAGE has it");
        for (int image = 0; image < 2; image++) {
            TradeWheel x = keptBusy(image);
            x.oil(1);
            x.help(0, 1);
            x.ill(0);
            x.go(5);
            x.help(2, 0);
            x.ill(1);
            c.due("back " + image, x.back(image), 7);
            c.same("as if nothing had been", Whole.of(x), Whole.of(keptBusy(image)));
            // What goes on behind back() does not reach into the IMAGE.
            x = keptBusy(image);
            x.back(image);
            x.oil(0);
            x.ill(1);
            x.go(40);
            c.due("back " + image + " again", x.back(image), 7);
            c.same("as it was kept", Whole.of(x), Whole.of(keptBusy(image)));
        }
    }

    private static TradeWheel keptBusy(int image) {
        TradeWheel x = Scenes.busy();
        x.keep(image);
        return x;
    }

    private static void imagesOfSixAndSix() {
        c.sentence("25: All of that, of as many as there can be");
        for (int rounds : new int[] {1, 97}) {
            TradeWheel x = Scenes.crowd(), y = Scenes.crowd();
            x.keep(1);
            y.keep(1);
            x.oil(2);
            x.go(rounds);
            c.due("back", x.back(1), 2);
            c.same("behind " + rounds, Whole.of(x), Whole.of(y));
        }
        TradeWheel x = Scenes.full(), y = Scenes.full();
        x.go(1);
        x.keep(0);
        x.go(9);
        x.back(0);
        y.go(1);
        y.keep(0);
        c.same("STORES of all", Whole.of(x), Whole.of(y));
    }

    private static void imagesKeptAnew() {
        c.sentence("24: An IMAGE is kept");
        TradeWheel x = Scenes.steady();
        c.due("at 0", x.keep(0), 0);
        x.go(1);
        c.due("the other at 1", x.keep(1), 1);
        x.go(1);
        c.due("kept anew at 2", x.keep(0), 2);
        x.go(97);
        c.due("the other", x.back(1), 1);
        c.due("what LACKED by then", x.now(1), 1);
        c.due("what FELL by then", x.now(2), 1);
        c.due("the one kept anew", x.back(0), 2);
        c.due("what LACKED by then", x.now(1), 2);
    }

    private static void imagesHoldNothingElse() {
        c.sentence("25: nothing else");
        TradeWheel x = Scenes.busy();
        x.tune(0, 9);
        x.tune(1, 20);
        x.tune(2, 99);
        x.rate(0, 0);
        x.clear();
        Checks.say(x, "person;");
        for (int image = 1; image >= 0; image--) x.back(image);
        c.due("FADE", x.tune(0, 1), 9);
        c.due("WINTER", x.tune(1, 1), 20);
        c.due("FALL", x.tune(2, 1), 99);
        c.due("THE TRACE", x.trace(), 1102);
        c.due("THE TEXT", x.count(4), 7);
        c.due("the other IMAGE stays", x.back(1), 3);
        c.due("this one, too", x.back(0), 7);
        c.due("what was told stays: PEOPLE", x.count(1), 4);
        c.due("what was told stays: at first", x.anew(), 7);
    }

    private static void imagesOfRound99() {
        c.sentence("24, 25: the ROUND");
        for (int round : new int[] {0, 1, 98, 99}) {
            TradeWheel x = Scenes.steadyAt(round);
            c.due("keep", x.keep(1), round);
            x.anew();
            c.due("back", x.back(1), round);
            c.due("ROUND", x.now(0), round);
            c.due("go", x.go(1), round < 99 ? 1 : STATE);
        }
        TradeWheel x = Scenes.idle();
        c.due("without TRADES", x.keep(0), 0);
        x.anew();
        c.due("back without TRADES", x.back(0), 0);
        c.due("its helps", x.count(2), 1);
        c.due("its ill ones", x.count(3), 1);
    }

    private static void imagesAreGoneWhenReadAnew() {
        c.sentence("25: Read anew: IMAGES are gone");
        for (String text : new String[] {"", "person;", "trade 9 2;trade 14 1;trade 3 5;person;person;person;person;"}) {
            TradeWheel x = Scenes.typed(text);
            x.read();
            for (int image = 0; image < 2; image++) c.due("back " + image, x.back(image), STATE);
            c.due("keep", x.keep(1), 0);
            c.due("back", x.back(1), 0);
            c.due("still gone", x.back(0), STATE);
        }
    }

    private static void imagesStayBehindAFault() {
        c.sentence("25: IMAGES stay behind a FAULT");
        TradeWheel x = Scenes.typed("person;oops");
        c.due("read", x.read(), -17);
        c.due("back 1", x.back(1), 3);
        c.due("back 0", x.back(0), 7);
    }

    private static void keepTellsTheRoundAndChangesNothing() {
        c.sentence("24: An IMAGE is kept: the ROUND");
        TradeWheel x = Scenes.busy(), y = Scenes.busy();
        x.keep(0);
        y.keep(0);
        y.keep(0);
        c.same("kept twice", Whole.of(y), Whole.of(x));
        TradeWheel z = Scenes.busy();
        c.due("keep", z.keep(1), 7);
        c.due("helps stay", z.count(2), 2);
        c.due("ill ones stay", z.count(3), 2);
        c.due("the other IMAGE", z.back(0), 7);
        c.due("was kept ahead of the last help, and stays so", z.count(2), 1);
    }
}
