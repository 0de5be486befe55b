/** Objects as the edge tests need them: each call makes the same one anew. */
final class Scenes {
    static final int LOW = Integer.MIN_VALUE, HIGH = Integer.MAX_VALUE;
    static final String SIX_TRADES = "trade 0 1;trade 0 1;trade 0 1;trade 0 1;trade 0 1;trade 0 1;";
    static final String SIX_PEOPLE = "person;person;person;person;person;person;";
    /** Three TRADES and four PEOPLE, each told in another way than at first. */
    private static final String TOLD = "trade 9 2;trade 14 1;trade 3 5;person;person;person;person;skill 0 1 7;skill 1 2 0;"
        + "skill 3 0 9;skip 2 0;skip 2 1;at 3 1;wheel 2 0 1;";

    private Scenes() {
    }

    /**
     * ROUND 7, and all that an object can hold is there: TUNES, TRACE and THE TEXT changed, two IMAGES, helps,
     * ill ones, FAVOURS, what LACKED and what FELL.
     */
    static TradeWheel busy() {
        TradeWheel x = busyWithoutText();
        Checks.say(x, "trade 5 2;person;at 0 0;");
        return x;
    }

    /** As busy(), with another text that is not yet read. */
    static TradeWheel typed(String text) {
        TradeWheel x = busyWithoutText();
        Checks.say(x, text);
        return x;
    }

    private static TradeWheel busyWithoutText() {
        TradeWheel x = Checks.of(TOLD);
        x.tune(0, 3);
        x.tune(1, 7);
        x.tune(2, 12);
        x.rate(3, 1);
        x.help(0, 1);
        x.go(3);
        x.help(2, 3);
        x.ill(1);
        x.keep(1);
        x.go(4);
        x.oil(0);
        x.help(1, 0);
        x.ill(2);
        x.keep(0);
        x.help(3, 2);
        x.ill(3);
        return x;
    }

    /** As busy(), at ROUND 99, with a help and an ill one told. */
    static TradeWheel last() {
        TradeWheel x = busy();
        x.go(99);
        x.help(1, 0);
        x.ill(2);
        return x;
    }

    /** PEOPLE, but no TRADES; the first helps, the last is ILL. */
    static TradeWheel idle() {
        TradeWheel x = Checks.of("person;person;person;");
        x.help(0, 1);
        x.ill(2);
        x.keep(1);
        return x;
    }

    /** One TRADE, of which one LACKS in each ROUND, and nobody. */
    static TradeWheel steady() {
        TradeWheel x = Checks.of("trade 1 1;");
        x.tune(1, 0);
        x.tune(2, 1);
        return x;
    }

    /** As steady(), but so many ROUNDS on. */
    static TradeWheel steadyAt(int round) {
        TradeWheel x = steady();
        if (round > 0) x.go(round);
        return x;
    }

    /** Six TRADES, six PEOPLE, nothing needed. */
    static TradeWheel full() {
        return Checks.of(SIX_TRADES + SIX_PEOPLE);
    }

    /** Six TRADES and six PEOPLE at ROUND 2: each has something in STORE or LACKED of it, the last ones, too. */
    static TradeWheel crowd() {
        TradeWheel x = Checks.of(SIX_TRADES.replace("0 1", "2 1") + SIX_PEOPLE);
        x.go(1);
        x.help(5, 0);
        x.help(0, 5);
        x.ill(4);
        x.go(1);
        x.oil(5);
        x.help(4, 5);
        x.help(5, 4);
        x.ill(5);
        return x;
    }

    /** Numbers that are not low .. high: the next ones, the farthest ones, and some that a cut or a shift would bring back. */
    static int[] outside(int low, int high) {
        return new int[] {low - 1, high + 1, LOW, HIGH, LOW + low, -9, -1000000, low + (1 << 8), low + (1 << 16), low - 256, high + 128};
    }
}
