/** Long mixed runs of calls, each answer compared with PlainModel's. */
public final class ModelTests {
    private static final int RUNS = 3000;
    private static final String[] WORDS = {"trade", "person", "skill", "skip", "at", "wheel"};
    private static final int[] EDGES = {Integer.MIN_VALUE, Integer.MIN_VALUE + 1, -1000000, -10, -9, -2, -1, 0, 1, 2, 3, 4, 5, 6, 7,
        8, 9, 10, 20, 21, 39, 40, 41, 59, 60, 61, 98, 99, 100, 400, 401, Integer.MAX_VALUE - 1, Integer.MAX_VALUE};

    private final Checks checks;
    private long seed;
    private TradeWheel x;
    private PlainModel m;
    private int run;
    private int calls;

    private ModelTests(Checks checks) {
        this.checks = checks;
    }

    public static void main(String[] args) {
        Checks checks = new Checks("ModelTests");
        ModelTests tests = new ModelTests(checks);
        for (int run = 1; run <= RUNS && !checks.anyFailed(); run++) tests.oneRun(run);
        checks.close();
    }

    /** The same numbers in each run of the tests: below n. */
    private int some(int n) {
        seed = seed * 6364136223846793005L + 1442695040888963407L;
        return (int) ((seed >>> 33) % n);
    }

    private int oneOf(int low, int high) {
        return low + some(high - low + 1);
    }

    /** Mostly what may be, at times any number. */
    private int arg(int low, int high) {
        return some(12) == 0 ? EDGES[some(EDGES.length)] : oneOf(low, high);
    }

    private void oneRun(int run) {
        this.run = run;
        seed = run * 7919L;
        x = new TradeWheel();
        m = new PlainModel();
        calls = 0;
        while (calls < 20) someCall(31);
        tellText();
        // A text takes 61 calls at most, any other step six: none stands behind the object's 512th call.
        while (calls < 440) {
            if (some(60) == 0) tellText();
            someCall(27);
        }
    }

    private void due(String call, long got, long want) {
        calls++;
        checks.due("run " + run + ", " + call, got, want);
    }

    // ---- texts

    private void tellText() {
        String text = some(3) == 0 ? wildText() : fairText();
        due("clear", x.clear(), m.clear());
        for (int from = 0; from < text.length(); ) {
            int to = Math.min(text.length(), from + 8 - some(8) / 7);
            String part = text.substring(from, to);
            long v = Checks.asNumber(part);
            if (part.length() < 8) v |= (long) some(1000) << (8 * part.length());
            due("type", x.type(v, part.length()), m.type(v, part.length()));
            from = to;
        }
        due("read [" + text + "]", x.read(), m.read());
        due("bytes", x.count(4), m.count(4));
    }

    private String blanks() {
        return some(6) == 0 ? "  ".substring(some(2)) : "";
    }

    private String number(int low, int high) {
        return blanks() + " " + oneOf(low, high) + blanks();
    }

    private String fairText() {
        int trades = some(8) == 0 ? some(3) : oneOf(1, 6), people = oneOf(0, 6);
        StringBuilder s = new StringBuilder(blanks());
        int scale = some(3) == 0 ? 99 : some(2) == 0 ? 30 : 9;
        for (int t = 0; t < trades; t++) s.append("trade").append(number(0, scale)).append(number(1, 9)).append(';');
        for (int p = 0; p < people; p++) s.append("person").append(blanks()).append(';').append(blanks());
        if (trades == 0) return s.toString();
        int more = oneOf(0, 9);
        for (int i = 0; i < more && s.length() < 240 && people > 0; i++) {
            if (some(9) == 0) s.append("wheel").append(someOrder(trades)).append(';');
            if (some(9) == 0 && people < 6) {
                s.append("person;");
                people++;
            }
            String word = WORDS[oneOf(2, 4)];
            s.append(word).append(number(0, people - 1)).append(number(0, trades - 1));
            if (word.equals("skill")) s.append(number(0, 9));
            s.append(';');
        }
        if (some(2) == 0) s.append("wheel").append(someOrder(trades)).append(blanks()).append(';');
        return s.append(blanks()).toString();
    }

    private String someOrder(int n) {
        StringBuilder rest = new StringBuilder("012345".substring(0, n));
        StringBuilder s = new StringBuilder();
        while (rest.length() > 0) {
            int i = some(rest.length());
            s.append(' ').append(rest.charAt(i));
            rest.deleteCharAt(i);
        }
        return s.toString();
    }

    /** A fair text with some of its bytes changed, lost or doubled, or any row of tokens. */
    private String wildText() {
        StringBuilder s = new StringBuilder();
        if (some(3) == 0) {
            int n = some(40);
            for (int i = 0; i < n; i++) {
                int k = some(10);
                if (k < 6) s.append(WORDS[k]);
                else if (k == 6) s.append(';');
                else if (k == 7) s.append((char) some(256));
                else s.append(oneOf(0, some(3) == 0 ? 120 : 7));
                if (some(3) > 0) s.append(' ');
            }
        } else {
            s.append(fairText());
            int n = oneOf(1, 3);
            for (int i = 0; i < n && s.length() > 0; i++) change(s, some(s.length()));
        }
        return s.length() > 400 ? s.substring(0, 400) : s.toString();
    }

    private void change(StringBuilder s, int at) {
        switch (some(5)) {
            case 0 -> s.deleteCharAt(at);
            case 1 -> s.insert(at, s.charAt(at));
            case 2 -> s.setCharAt(at, (char) some(256));
            case 3 -> s.setLength(at);
            default -> s.setCharAt(at, "0123456789; ".charAt(some(12)));
        }
    }

    // ---- calls

    private void someCall(int kinds) {
        switch (some(kinds)) {
            case 0, 27, 28, 29, 30 -> {
                long v = some(3) == 0 ? 0x3B3B3B3B20203B00L : seed;
                int n = kinds > 27 ? arg(1, 8) : arg(9, 12);
                due("type(" + v + ", " + n + ")", x.type(v, n), m.type(v, n));
            }
            case 1, 2, 3 -> states();
            case 4, 5 -> {
                int n = some(4) == 0 ? arg(1, 99) : arg(1, 4);
                due("go(" + n + ")", x.go(n), m.go(n));
            }
            case 6, 7, 8 -> {
                int p = arg(0, 5), q = arg(0, 5);
                due("help(" + p + ", " + q + ")", x.help(p, q), m.help(p, q));
            }
            case 9, 10 -> {
                int p = arg(0, 5);
                due("ill(" + p + ")", x.ill(p), m.ill(p));
            }
            case 11 -> {
                int k = arg(0, 5);
                due("oil(" + k + ")", x.oil(k), m.oil(k));
            }
            case 12 -> {
                int what = arg(0, 2), v = arg(0, new int[] {9, 20, 99}[Math.floorMod(what, 3)]);
                due("tune(" + what + ", " + v + ")", x.tune(what, v), m.tune(what, v));
            }
            case 13 -> {
                if (some(3) == 0) due("anew()", x.anew(), m.anew());
            }
            case 14, 15 -> foretold();
            case 16 -> {
                int n = some(4) == 0 ? arg(1, 40) : arg(1, 3), what = arg(0, 1);
                if (some(8) == 0) due("best(" + n + ", " + what + ")", x.best(n, what), m.best(n, what));
            }
            case 17 -> {
                int n = arg(1, 40), what = arg(0, 1);
                due("taught(" + n + ", " + what + ")", x.taught(n, what), m.taught(n, what));
            }
            case 18 -> {
                int p = arg(0, 5), n = arg(1, 40);
                due("standsIn(" + p + ", " + n + ")", x.standsIn(p, n), m.standsIn(p, n));
            }
            case 19, 20 -> {
                int t = arg(0, 5), mark = arg(0, 9), r = m.now.round + arg(0, some(4) == 0 ? 99 : 3);
                due("madeBy(" + t + ", " + mark + ", " + r + ")", x.madeBy(t, mark, r), m.madeBy(t, mark, r));
            }
            case 21 -> due("again()", x.again(), m.again());
            case 22, 23 -> {
                int kind = arg(0, 5), p = arg(0, 5);
                due("rate(" + kind + ", " + p + ")", x.rate(kind, p), m.rate(kind, p));
                due("trace()", x.trace(), m.trace());
            }
            case 24 -> {
                int image = arg(0, 1);
                due("keep(" + image + ")", x.keep(image), m.keep(image));
            }
            case 25 -> {
                int image = arg(0, 1);
                due("back(" + image + ")", x.back(image), m.back(image));
            }
            default -> {
                int what = arg(0, 4);
                due("count(" + what + ")", x.count(what), m.count(what));
            }
        }
    }

    private void foretold() {
        int n = arg(1, 40), what = arg(0, 1);
        due("lacking(" + n + ", " + what + ")", x.lacking(n, what), m.lacking(n, what));
    }

    private void states() {
        int t = arg(0, 5), p = arg(0, 5), q = arg(0, 5), what = arg(0, 4);
        due("trade(" + t + ", " + what + ")", x.trade(t, what), m.trade(t, what));
        due("skill(" + p + ", " + t + ")", x.skill(p, t), m.skill(p, t));
        due("person(" + p + ", " + what + ")", x.person(p, what), m.person(p, what));
        due("wheel(" + t + ")", x.wheel(t), m.wheel(t));
        due("favours(" + q + ", " + p + ")", x.favours(q, p), m.favours(q, p));
        due("now(" + what + ")", x.now(what), m.now(what));
    }
}
