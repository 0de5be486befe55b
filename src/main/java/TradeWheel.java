/** Trades by the hundred days; ../shared/DOC.md says what each call answers. */
public final class TradeWheel {
    public static final int BAD = -1, STATE = -2, FULL = -3, NONE = -9;
    public static final int NO = -1000000;

    private static final int MOST_TRADES = 6;
    private static final int MOST_PEOPLE = 6;
    private static final int TOP_SKILL = 9;
    private static final int FIRST_SKILL = 3;
    private static final int LAST_ROUND = 99;
    private static final int FARTHEST = 40;
    private static final int FARTHEST_AGAIN = 60;
    private static final int MOST_ORDERS = 720;
    private static final int IMAGES = 2;
    private static final int ANY = 0x7fffffff;

    private final Text text = new Text();
    private final Tunes tunes = new Tunes();
    private final World present = new World();
    // Every foretelling runs in this one world: a call makes no object.
    private final World ahead = new World();
    private final World[] images = new World[IMAGES];
    private final boolean[] kept = new boolean[IMAGES];
    private final int[] order = new int[MOST_TRADES];
    private Told told = new Told();
    // What a text tells stands here until it has no FAULT.
    private Told draft = new Told();
    private long trace = 0;

    public TradeWheel() {
        for (int i = 0; i < IMAGES; i++) images[i] = new World();
        present.startAs(told);
    }

    // ---- trades and people

    public int type(long v, int n) {
        if (!within(n, 1, 8)) return BAD;
        if (text.length + n > Text.ROOM) return FULL;
        text.add(v, n);
        return text.length;
    }

    public int clear() {
        int had = text.length;
        text.length = 0;
        return had;
    }

    public int read() {
        text.cut();
        int items = draft.readAll(text);
        if (items == NONE) return -10 - text.start();
        Told before = told;
        told = draft;
        draft = before;
        text.length = 0;
        present.startAs(told);
        for (int i = 0; i < IMAGES; i++) kept[i] = false;
        return items;
    }

    public int trade(int t, int what) {
        if (!isTrade(t)) return BAD;
        switch (what) {
            case 0: return told.needs[t];
            case 1: return told.yields[t];
            case 2: return present.stores[t];
            case 3: return present.lacked[t];
            default: return BAD;
        }
    }

    public int skill(int p, int t) {
        if (!isPerson(p) || !isTrade(t)) return BAD;
        return present.skills[cell(p, t)];
    }

    public int person(int p, int what) {
        if (!isPerson(p)) return BAD;
        switch (what) {
            case 0: return present.places[p];
            case 1: return present.tradeOf(p, told);
            case 2: return present.isIll(p) ? 1 : 0;
            case 3: return present.whomHelps(p);
            case 4: return told.skips[p];
            default: return BAD;
        }
    }

    public int wheel(int k) {
        return isTrade(k) ? present.wheel[k] : BAD;
    }

    public int tune(int what, int v) {
        int was;
        switch (what) {
            case 0:
                if (!within(v, 0, 9)) return BAD;
                was = tunes.fade;
                tunes.fade = v;
                return was;
            case 1:
                if (!within(v, 0, 20)) return BAD;
                was = tunes.winter;
                tunes.winter = v;
                return was;
            case 2:
                if (!within(v, 1, 99)) return BAD;
                was = tunes.fall;
                tunes.fall = v;
                return was;
            default:
                return BAD;
        }
    }

    // ---- rounds

    public int go(int n) {
        if (!within(n, 1, LAST_ROUND)) return BAD;
        if (present.round >= LAST_ROUND || told.trades == 0) return STATE;
        return present.goRounds(n, ANY, told, tunes);
    }

    public int help(int p, int q) {
        if (!areTwo(p, q)) return BAD;
        if (present.whomHelps(p) != NONE || present.helpers[q] != NONE) return STATE;
        present.helpers[q] = p;
        return 1;
    }

    public int ill(int p) {
        if (!isPerson(p)) return BAD;
        if (present.isIll(p)) return 0;
        present.fallIll(p);
        return 1;
    }

    public int oil(int k) {
        if (!isTrade(k)) return BAD;
        if (told.trades == 1) return STATE;
        swap(present.wheel, k, told.behind(k));
        return present.wheel[k];
    }

    public int favours(int q, int p) {
        if (!areTwo(q, p)) return BAD;
        return present.favours[q * MOST_PEOPLE + p];
    }

    public int now(int what) {
        switch (what) {
            case 0: return present.round;
            case 1: return sum(present.lacked, told.trades);
            case 2: return present.fell;
            case 3: return sum(present.stores, told.trades);
            default: return BAD;
        }
    }

    public int anew() {
        int was = present.round;
        present.startAs(told);
        return was;
    }

    // ---- foretold

    public int lacking(int n, int what) {
        if (!isForetold(n, what)) return BAD;
        if (told.trades == 0) return STATE;
        ahead.becomes(present);
        int lacks = ahead.goRounds(n, ANY, told, tunes);
        return what == 0 ? lacks : ahead.fell - present.fell;
    }

    public int best(int n, int what) {
        if (!isForetold(n, what)) return BAD;
        if (told.trades == 0) return STATE;
        for (int k = 0; k < MOST_TRADES; k++) order[k] = k;
        int least = ANY;
        int figures = 0;
        boolean more = true;
        for (int i = 0; i < MOST_ORDERS && more; i++) {
            int lacks = lackingByOrder(n, least);
            if (lacks < least) {
                least = lacks;
                figures = orderAsFigures();
            }
            more = nextOrder();
        }
        return what == 0 ? figures : least;
    }

    public int taught(int n, int what) {
        if (!isForetold(n, what)) return BAD;
        if (told.trades == 0) return STATE;
        ahead.becomes(present);
        int least = ahead.goRounds(n, ANY, told, tunes);
        int first = NONE;
        for (int p = 0; p < told.people; p++) {
            for (int t = 0; t < told.trades; t++) {
                if (present.skills[cell(p, t)] >= TOP_SKILL) continue;
                int lacks = lackingIfTaught(p, t, n, least);
                if (lacks < least) {
                    least = lacks;
                    first = 10 * p + t;
                }
            }
        }
        if (first == NONE) return NONE;
        return what == 0 ? first : least;
    }

    public int standsIn(int p, int n) {
        if (!isPerson(p) || !within(n, 1, FARTHEST)) return BAD;
        if (told.trades == 0) return STATE;
        int least = lackingIfChanged(p, p, n, ANY);
        int with = p;
        for (int q = 0; q < told.people; q++) {
            int lacks = lackingIfChanged(p, q, n, least);
            if (lacks < least) {
                least = lacks;
                with = q;
            }
        }
        return with;
    }

    public int madeBy(int t, int mark, int r) {
        if (!isTrade(t) || !within(mark, 0, TOP_SKILL) || !within(r, present.round, LAST_ROUND)) return BAD;
        ahead.becomes(present);
        ahead.goRounds(r - present.round, ANY, told, tunes);
        int makers = 0;
        for (int p = 0; p < told.people; p++) {
            boolean works = ahead.tradeOf(p, told) == t && !ahead.isIll(p);
            if (works && ahead.skills[cell(p, t)] == mark) makers |= 1 << p;
        }
        return makers;
    }

    public int again() {
        if (told.trades == 0) return STATE;
        ahead.becomes(present);
        // Places alone tell who works where; they go on past ROUND 99 as before it.
        for (int r = 1; r <= FARTHEST_AGAIN; r++) {
            ahead.findWork(told);
            ahead.moveOn(told);
            if (worksAsNow()) return r;
        }
        return NONE;
    }

    // ---- kinds, images

    public int rate(int kind, int p) {
        if (!isPerson(p)) return NO;
        switch (kind) {
            case 0: return asPerson(p);
            case 1: return asLearner(p);
            case 2: return asMaster(p);
            case 3: return asLender(p);
            case 4: return asChild(p);
            case 5: return asIdle(p);
            default: return NO;
        }
    }

    public int keep(int image) {
        if (!within(image, 0, IMAGES - 1)) return BAD;
        images[image].becomes(present);
        kept[image] = true;
        return present.round;
    }

    public int back(int image) {
        if (!within(image, 0, IMAGES - 1)) return BAD;
        if (!kept[image]) return STATE;
        present.becomes(images[image]);
        return present.round;
    }

    public int count(int what) {
        switch (what) {
            case 0: return told.trades;
            case 1: return told.people;
            case 2: return present.helpsTold();
            case 3: return Integer.bitCount(present.ills);
            case 4: return text.length;
            default: return BAD;
        }
    }

    public long trace() {
        return trace;
    }

    // ---- what arguments may be

    private static boolean within(int v, int low, int high) {
        return low <= v && v <= high;
    }

    private boolean isTrade(int t) {
        return within(t, 0, told.trades - 1);
    }

    private boolean isPerson(int p) {
        return within(p, 0, told.people - 1);
    }

    private boolean areTwo(int p, int q) {
        return isPerson(p) && isPerson(q) && p != q;
    }

    private static boolean isForetold(int n, int what) {
        return within(n, 1, FARTHEST) && within(what, 0, 1);
    }

    // ---- small helpers on rows

    private static int cell(int p, int t) {
        return p * MOST_TRADES + t;
    }

    private static void swap(int[] row, int i, int j) {
        int first = row[i];
        row[i] = row[j];
        row[j] = first;
    }

    private static int sum(int[] row, int n) {
        int all = 0;
        for (int i = 0; i < n; i++) all += row[i];
        return all;
    }

    // ---- foretelling: with `enough`, as LACKING only grows, what can't be less is not run to its end

    private int lackingByOrder(int n, int enough) {
        ahead.becomes(present);
        System.arraycopy(order, 0, ahead.wheel, 0, MOST_TRADES);
        return ahead.goRounds(n, enough, told, tunes);
    }

    private int lackingIfTaught(int p, int t, int n, int enough) {
        ahead.becomes(present);
        ahead.skills[cell(p, t)]++;
        return ahead.goRounds(n, enough, told, tunes);
    }

    private int lackingIfChanged(int p, int q, int n, int enough) {
        ahead.becomes(present);
        ahead.fallIll(p);
        swap(ahead.places, p, q);
        return ahead.goRounds(n, enough, told, tunes);
    }

    private boolean worksAsNow() {
        for (int p = 0; p < told.people; p++) {
            if (ahead.tradeOf(p, told) != present.tradeOf(p, told)) return false;
        }
        return true;
    }

    private int orderAsFigures() {
        int figures = 0;
        for (int k = 0; k < told.trades; k++) figures = 10 * figures + order[k];
        return figures;
    }

    /** The order that comes next, as words do in a dictionary; false behind the last one. */
    private boolean nextOrder() {
        int last = told.trades - 1;
        int i = last - 1;
        while (i >= 0 && order[i] > order[i + 1]) i--;
        if (i < 0) return false;
        int j = last;
        while (j > i && order[j] < order[i]) j--;
        swap(order, i, j);
        for (int low = i + 1, high = last; low < high; low++, high--) swap(order, low, high);
        return true;
    }

    // ---- kinds: each body adds its own number to THE TRACE and asks the kind above

    private int asPerson(int p) {
        trace += 1;
        int all = 0;
        for (int t = 0; t < told.trades; t++) all += present.skills[cell(p, t)];
        return all;
    }

    private int asLearner(int p) {
        trace += 10;
        return asPerson(p) + present.places[p];
    }

    private int asMaster(int p) {
        trace += 100;
        int greatest = 0;
        for (int t = 0; t < told.trades; t++) greatest = Math.max(greatest, present.skills[cell(p, t)]);
        return asPerson(p) + greatest;
    }

    private int asLender(int p) {
        trace += 1000;
        return 2 * asMaster(p);
    }

    private int asChild(int p) {
        trace += 10000;
        int least = told.trades == 0 ? 0 : TOP_SKILL;
        for (int t = 0; t < told.trades; t++) least = Math.min(least, present.skills[cell(p, t)]);
        return asLearner(p) - least;
    }

    private int asIdle(int p) {
        trace += 100000;
        return asPerson(p) - present.round;
    }

    private static final class Tunes {
        int fade = 4;
        int winter = 5;
        int fall = 10;
    }

    /** THE TEXT, and the tokens that it is cut into. */
    private static final class Text {
        static final int ROOM = 400;
        // What a token is, if it is no NUMBER (a NUMBER is 0 or more).
        static final int END = -1, STOP = -2, WRONG = -3;
        static final int TRADE = -4, PERSON = -5, SKILL = -6, SKIP = -7, AT = -8, WHEEL = -9;

        int length = 0;
        private final char[] signs = new char[ROOM];
        // END stands behind the last token, so there is one more than the bytes that there may be.
        private final int[] tokens = new int[ROOM + 1];
        private final int[] starts = new int[ROOM + 1];
        private int cuts = 0;
        private int current = 0;

        void add(long v, int n) {
            for (int i = n - 1; i >= 0 && length < ROOM; i--) {
                signs[length] = (char) (v >>> (8 * i) & 255);
                length++;
            }
        }

        /** Cuts the whole text into tokens; the first of them is the current one then. */
        void cut() {
            cuts = 0;
            current = 0;
            int to = 0;
            for (int from = 0; from < length; from++) {
                if (from < to || signs[from] == ' ') continue;
                to = endOfToken(from);
                addToken(tokenOf(from, to), from);
            }
            addToken(END, length);
        }

        int token() {
            return tokens[current];
        }

        int start() {
            return starts[current];
        }

        /** Goes on to the next token; END stays. */
        void pass() {
            if (current < cuts - 1) current++;
        }

        /** Passes a NUMBER from low (0 or more) to high and answers it; passes nothing and answers NONE, if none stands there. */
        int number(int low, int high) {
            int value = token();
            if (!within(value, low, high)) return NONE;
            pass();
            return value;
        }

        private void addToken(int token, int start) {
            if (cuts > ROOM) return;
            tokens[cuts] = token;
            starts[cuts] = start;
            cuts++;
        }

        private int endOfToken(int from) {
            int to = from + 1;
            if (isLetter(from)) {
                while (to < length && isLetter(to)) to++;
            } else if (isFigure(from)) {
                while (to < length && isFigure(to)) to++;
            }
            return to;
        }

        private int tokenOf(int from, int to) {
            if (isLetter(from)) return wordOf(from, to);
            if (isFigure(from)) return numberOf(from, to);
            return signs[from] == ';' ? STOP : WRONG;
        }

        private int wordOf(int from, int to) {
            if (says("trade", from, to)) return TRADE;
            if (says("person", from, to)) return PERSON;
            if (says("skill", from, to)) return SKILL;
            if (says("skip", from, to)) return SKIP;
            if (says("at", from, to)) return AT;
            if (says("wheel", from, to)) return WHEEL;
            return WRONG;
        }

        private int numberOf(int from, int to) {
            if (to - from > 2) return WRONG;
            if (to - from == 1) return signs[from] - '0';
            if (signs[from] == '0') return WRONG;
            return 10 * (signs[from] - '0') + signs[from + 1] - '0';
        }

        private boolean says(String word, int from, int to) {
            if (word.length() != to - from) return false;
            for (int i = 0; i < word.length(); i++) {
                if (word.charAt(i) != signs[from + i]) return false;
            }
            return true;
        }

        private boolean isLetter(int i) {
            return 'a' <= signs[i] && signs[i] <= 'z';
        }

        private boolean isFigure(int i) {
            return '0' <= signs[i] && signs[i] <= '9';
        }
    }

    /** What a text told: TRADES, PEOPLE, and how NOW is at first. */
    private static final class Told {
        int trades = 0;
        int people = 0;
        final int[] needs = new int[MOST_TRADES];
        final int[] yields = new int[MOST_TRADES];
        final int[] skips = new int[MOST_PEOPLE];
        final int[] skills = new int[MOST_PEOPLE * MOST_TRADES];
        final int[] places = new int[MOST_PEOPLE];
        final int[] wheel = new int[MOST_TRADES];
        private boolean tradesEnded = false;

        /** The place behind k on THE WHEEL. */
        int behind(int k) {
            return k + 1 < trades ? k + 1 : 0;
        }

        /** Reads all ITEMS from the text's tokens: how many; NONE, if the current token can't stand there. */
        int readAll(Text text) {
            tellNothing();
            int items = 0;
            while (text.token() != Text.END && items < Text.ROOM) {
                if (!readItem(text) || text.token() != Text.STOP) return NONE;
                text.pass();
                items++;
            }
            placeTheRest();
            return items;
        }

        private void tellNothing() {
            trades = 0;
            people = 0;
            tradesEnded = false;
            for (int t = 0; t < MOST_TRADES; t++) wheel[t] = t;
            for (int p = 0; p < MOST_PEOPLE; p++) {
                skips[p] = 0;
                places[p] = NONE;
            }
            for (int i = 0; i < skills.length; i++) skills[i] = FIRST_SKILL;
        }

        // Where each stands whose place is not told: only the whole text tells how many TRADES there are.
        private void placeTheRest() {
            for (int p = 0; p < people; p++) {
                if (places[p] == NONE) places[p] = trades == 0 ? 0 : p % trades;
            }
        }

        /** Reads an ITEM up to its ; and says whether all of it can stand there. */
        private boolean readItem(Text text) {
            int word = text.token();
            if (!canBegin(word)) return false;
            text.pass();
            switch (word) {
                case Text.TRADE: return readTrade(text);
                case Text.PERSON: return readPerson();
                case Text.SKILL: return readSkill(text);
                case Text.SKIP: return readSkip(text);
                case Text.AT: return readPlace(text);
                default: return readWheel(text);
            }
        }

        private boolean canBegin(int word) {
            switch (word) {
                case Text.TRADE: return trades < MOST_TRADES && !tradesEnded;
                case Text.PERSON: return people < MOST_PEOPLE;
                case Text.SKILL:
                case Text.SKIP:
                case Text.AT: return true;
                case Text.WHEEL: return trades > 0;
                default: return false;
            }
        }

        private boolean readTrade(Text text) {
            int need = text.number(0, 99);
            if (need == NONE) return false;
            int makes = text.number(1, 9);
            if (makes == NONE) return false;
            needs[trades] = need;
            yields[trades] = makes;
            trades++;
            return true;
        }

        private boolean readPerson() {
            people++;
            return true;
        }

        private boolean readSkill(Text text) {
            tradesEnded = true;
            int p = text.number(0, people - 1);
            if (p == NONE) return false;
            int t = text.number(0, trades - 1);
            if (t == NONE) return false;
            int s = text.number(0, TOP_SKILL);
            if (s == NONE) return false;
            skills[cell(p, t)] = s;
            return true;
        }

        private boolean readSkip(Text text) {
            tradesEnded = true;
            int p = text.number(0, people - 1);
            if (p == NONE) return false;
            int t = text.number(0, trades - 1);
            if (t == NONE) return false;
            skips[p] |= 1 << t;
            return true;
        }

        private boolean readPlace(Text text) {
            tradesEnded = true;
            int p = text.number(0, people - 1);
            if (p == NONE) return false;
            int k = text.number(0, trades - 1);
            if (k == NONE) return false;
            places[p] = k;
            return true;
        }

        private boolean readWheel(Text text) {
            tradesEnded = true;
            int seen = 0;
            for (int k = 0; k < trades; k++) {
                int t = text.token();
                if (!within(t, 0, trades - 1) || (seen >> t & 1) != 0) return false;
                text.pass();
                seen |= 1 << t;
                wheel[k] = t;
            }
            return true;
        }
    }

    /** All that IMAGES keep, and how a ROUND goes by. */
    private static final class World {
        int round = 0;
        int fell = 0;
        int ills = 0;
        final int[] skills = new int[MOST_PEOPLE * MOST_TRADES];
        final int[] places = new int[MOST_PEOPLE];
        final int[] stores = new int[MOST_TRADES];
        final int[] lacked = new int[MOST_TRADES];
        final int[] helpers = new int[MOST_PEOPLE];
        // Row q, column p: what q owes p.
        final int[] favours = new int[MOST_PEOPLE * MOST_PEOPLE];
        final int[] wheel = new int[MOST_TRADES];
        // The place of the TRADE that each works at in the ROUND that goes by; made anew in each.
        private final int[] works = new int[MOST_PEOPLE];

        void startAs(Told told) {
            round = 0;
            fell = 0;
            ills = 0;
            System.arraycopy(told.skills, 0, skills, 0, skills.length);
            System.arraycopy(told.places, 0, places, 0, MOST_PEOPLE);
            System.arraycopy(told.wheel, 0, wheel, 0, MOST_TRADES);
            for (int t = 0; t < MOST_TRADES; t++) {
                stores[t] = 0;
                lacked[t] = 0;
            }
            for (int p = 0; p < MOST_PEOPLE; p++) helpers[p] = NONE;
            for (int i = 0; i < favours.length; i++) favours[i] = 0;
        }

        void becomes(World other) {
            round = other.round;
            fell = other.fell;
            ills = other.ills;
            System.arraycopy(other.skills, 0, skills, 0, skills.length);
            System.arraycopy(other.places, 0, places, 0, MOST_PEOPLE);
            System.arraycopy(other.stores, 0, stores, 0, MOST_TRADES);
            System.arraycopy(other.lacked, 0, lacked, 0, MOST_TRADES);
            System.arraycopy(other.helpers, 0, helpers, 0, MOST_PEOPLE);
            System.arraycopy(other.favours, 0, favours, 0, favours.length);
            System.arraycopy(other.wheel, 0, wheel, 0, MOST_TRADES);
        }

        boolean isIll(int p) {
            return (ills >> p & 1) != 0;
        }

        void fallIll(int p) {
            ills |= 1 << p;
        }

        int helpsTold() {
            int helps = 0;
            for (int q = 0; q < MOST_PEOPLE; q++) {
                if (helpers[q] != NONE) helps++;
            }
            return helps;
        }

        int whomHelps(int p) {
            for (int q = 0; q < MOST_PEOPLE; q++) {
                if (helpers[q] == p) return q;
            }
            return NONE;
        }

        /** The place of the TRADE that p works at, ill or not. */
        private int workplace(int p, Told told) {
            int k = places[p];
            for (int i = 0; i < told.trades; i++) {
                if ((told.skips[p] >> wheel[k] & 1) == 0) return k;
                k = told.behind(k);
            }
            return NONE;
        }

        int tradeOf(int p, Told told) {
            int k = workplace(p, told);
            return k == NONE ? NONE : wheel[k];
        }

        /** So many ROUNDS go by, as many as are left, and none behind that with which enough lacks: what lacks in these. */
        int goRounds(int n, int enough, Told told, Tunes tunes) {
            int rounds = Math.min(n, LAST_ROUND - round);
            int lacks = 0;
            for (int i = 0; i < rounds && lacks < enough; i++) lacks += goRound(told, tunes);
            return lacks;
        }

        private int goRound(Told told, Tunes tunes) {
            findWork(told);
            makeGoods(told);
            int lacks = takeNeeds(told, tunes.winter);
            if (lacks >= tunes.fall) fell++;
            changeSkills(told, tunes.fade);
            moveOn(told);
            endHelps();
            ills = 0;
            round++;
            return lacks;
        }

        void findWork(Told told) {
            for (int p = 0; p < told.people; p++) works[p] = workplace(p, told);
        }

        private void makeGoods(Told told) {
            for (int p = 0; p < told.people; p++) {
                int t = workedAt(p);
                if (t != NONE) stores[t] += told.yields[t] * skillAtHand(p, t);
            }
        }

        private int workedAt(int p) {
            return works[p] == NONE || isIll(p) ? NONE : wheel[works[p]];
        }

        private int skillAtHand(int p, int t) {
            int own = skills[cell(p, t)];
            int helper = helpers[p];
            if (helper == NONE || isIll(helper)) return own;
            return Math.max(own, skills[cell(helper, t)]);
        }

        private int takeNeeds(Told told, int winter) {
            int tenths = round % 4 == 3 ? 10 + winter : 10;
            int lacks = 0;
            for (int t = 0; t < told.trades; t++) {
                int left = stores[t] - told.needs[t] * tenths / 10;
                if (left < 0) {
                    lacked[t] -= left;
                    lacks -= left;
                }
                stores[t] = Math.max(left, 0);
            }
            return lacks;
        }

        private void changeSkills(Told told, int fade) {
            boolean fades = fade > 0 && (round + 1) % fade == 0;
            for (int p = 0; p < told.people; p++) {
                int done = workedAt(p);
                for (int t = 0; t < told.trades; t++) {
                    int at = cell(p, t);
                    if (t == done) skills[at] = Math.min(skills[at] + 1, TOP_SKILL);
                    else if (fades) skills[at] = Math.max(skills[at] - 1, 0);
                }
            }
        }

        void moveOn(Told told) {
            for (int p = 0; p < told.people; p++) {
                places[p] = told.behind(works[p] == NONE ? places[p] : works[p]);
            }
        }

        private void endHelps() {
            for (int q = 0; q < MOST_PEOPLE; q++) {
                if (helpers[q] != NONE) favours[q * MOST_PEOPLE + helpers[q]]++;
                helpers[q] = NONE;
            }
        }
    }
}
