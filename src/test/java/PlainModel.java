import java.util.ArrayList;
import java.util.List;
import java.util.TreeMap;
import java.util.regex.Matcher;
import java.util.regex.Pattern;

/** The document once more, written another way (maps, copies, no cutting short), to be compared with TradeWheel. */
final class PlainModel {
    static final int BAD = -1, STATE = -2, FULL = -3, NONE = -9, NO = -1000000;

    static final class State {
        int round, fell;
        List<int[]> skills = new ArrayList<>();
        List<Integer> places = new ArrayList<>();
        List<Integer> wheel = new ArrayList<>();
        int[] stores = new int[6], lacked = new int[6];
        TreeMap<Integer, Integer> helps = new TreeMap<>();
        TreeMap<Integer, Boolean> ills = new TreeMap<>();
        TreeMap<String, Integer> favours = new TreeMap<>();

        State copy() {
            State s = new State();
            s.round = round;
            s.fell = fell;
            for (int[] row : skills) s.skills.add(row.clone());
            s.places.addAll(places);
            s.wheel.addAll(wheel);
            s.stores = stores.clone();
            s.lacked = lacked.clone();
            s.helps.putAll(helps);
            s.ills.putAll(ills);
            s.favours.putAll(favours);
            return s;
        }
    }

    final StringBuilder text = new StringBuilder();
    List<int[]> trades = new ArrayList<>();
    List<boolean[]> skips = new ArrayList<>();
    State first = new State();
    State now = new State();
    State[] images = new State[2];
    int[] tunes = {4, 5, 10};
    long trace = 0;

    // ---- the text

    int type(long v, int n) {
        if (n < 1 || n > 8) return BAD;
        if (text.length() + n > 400) return FULL;
        for (int i = 1; i <= n; i++) text.append((char) ((v >> (8 * (n - i))) & 0xFF));
        return text.length();
    }

    int clear() {
        int n = text.length();
        text.setLength(0);
        return n;
    }

    private static final Pattern TOKEN = Pattern.compile(" *(?:([a-z]+)|([0-9]+)|(;)|([^ ])|$)", Pattern.DOTALL);

    static final class Fault extends Exception {
        private static final long serialVersionUID = 1;
        final int at;

        Fault(int at) {
            this.at = at;
        }
    }

    final class Reading {
        final Matcher m = TOKEN.matcher(text);
        String token;
        int at;
        List<int[]> trades = new ArrayList<>();
        List<boolean[]> skips = new ArrayList<>();
        List<int[]> skills = new ArrayList<>();
        TreeMap<Integer, Integer> places = new TreeMap<>();
        List<Integer> wheel;
        boolean closed;

        void next() throws Fault {
            if (!m.find()) {
                token = "";
                at = text.length();
                return;
            }
            token = "";
            at = text.length();
            for (int g = 1; g <= 4; g++) {
                if (m.group(g) != null) {
                    token = m.group(g);
                    at = m.start(g);
                }
            }
        }

        int number(int low, int high) throws Fault {
            next();
            if (!token.matches("0|[1-9][0-9]?")) throw new Fault(at);
            int v = Integer.parseInt(token);
            if (v < low || v > high) throw new Fault(at);
            return v;
        }

        void stop() throws Fault {
            next();
            if (!token.equals(";")) throw new Fault(at);
        }

        int all() throws Fault {
            int items = 0;
            for (next(); !token.isEmpty(); next()) {
                item();
                items++;
            }
            return items;
        }

        void item() throws Fault {
            switch (token) {
                case "trade" -> {
                    if (closed || trades.size() == 6) throw new Fault(at);
                    trades.add(new int[] {number(0, 99), number(1, 9)});
                }
                case "person" -> {
                    if (skips.size() == 6) throw new Fault(at);
                    skips.add(new boolean[6]);
                    skills.add(new int[] {3, 3, 3, 3, 3, 3});
                }
                case "skill" -> {
                    closed = true;
                    int p = number(0, skips.size() - 1), t = number(0, trades.size() - 1);
                    skills.get(p)[t] = number(0, 9);
                }
                case "skip" -> {
                    closed = true;
                    int p = number(0, skips.size() - 1), t = number(0, trades.size() - 1);
                    skips.get(p)[t] = true;
                }
                case "at" -> {
                    closed = true;
                    int p = number(0, skips.size() - 1);
                    places.put(p, number(0, trades.size() - 1));
                }
                case "wheel" -> {
                    if (trades.isEmpty()) throw new Fault(at);
                    closed = true;
                    List<Integer> order = new ArrayList<>();
                    while (order.size() < trades.size()) {
                        int t = number(0, trades.size() - 1);
                        if (order.contains(t)) throw new Fault(at);
                        order.add(t);
                    }
                    wheel = order;
                }
                default -> throw new Fault(at);
            }
            stop();
        }
    }

    int read() {
        Reading r = new Reading();
        int items;
        try {
            items = r.all();
        } catch (Fault f) {
            return -10 - f.at;
        }
        trades = r.trades;
        skips = r.skips;
        first = new State();
        first.skills = r.skills;
        for (int p = 0; p < skips.size(); p++) {
            first.places.add(r.places.containsKey(p) ? r.places.get(p) : trades.isEmpty() ? 0 : p % trades.size());
        }
        for (int t = 0; t < trades.size(); t++) first.wheel.add(r.wheel == null ? t : r.wheel.get(t));
        now = first.copy();
        images = new State[2];
        text.setLength(0);
        return items;
    }

    // ---- answers about NOW

    boolean noTrade(int t) {
        return t < 0 || t >= trades.size();
    }

    boolean noPerson(int p) {
        return p < 0 || p >= skips.size();
    }

    int trade(int t, int what) {
        if (noTrade(t) || what < 0 || what > 3) return BAD;
        return new int[] {trades.get(t)[0], trades.get(t)[1], now.stores[t], now.lacked[t]}[what];
    }

    int skill(int p, int t) {
        return noPerson(p) || noTrade(t) ? BAD : now.skills.get(p)[t];
    }

    /** The steps from one's place to where one works; NONE, if one skips all. */
    int stepsToWork(State s, int p) {
        int n = trades.size();
        for (int i = 0; i < n; i++) {
            if (!skips.get(p)[s.wheel.get((s.places.get(p) + i) % n)]) return i;
        }
        return NONE;
    }

    int worksAt(State s, int p) {
        int steps = stepsToWork(s, p);
        return steps == NONE ? NONE : s.wheel.get((s.places.get(p) + steps) % trades.size());
    }

    int person(int p, int what) {
        if (noPerson(p) || what < 0 || what > 4) return BAD;
        int bits = 0;
        for (int t = 0; t < 6; t++) bits += skips.get(p)[t] ? 1 << t : 0;
        int ill = now.ills.containsKey(p) ? 1 : 0;
        return new int[] {now.places.get(p), worksAt(now, p), ill, now.helps.getOrDefault(p, NONE), bits}[what];
    }

    int wheel(int k) {
        return noTrade(k) ? BAD : now.wheel.get(k);
    }

    int tune(int what, int v) {
        if (what < 0 || what > 2) return BAD;
        if (v < (what == 2 ? 1 : 0) || v > new int[] {9, 20, 99}[what]) return BAD;
        int was = tunes[what];
        tunes[what] = v;
        return was;
    }

    // ---- rounds

    int round(State s) {
        int n = trades.size();
        int[] work = new int[skips.size()];
        for (int p = 0; p < work.length; p++) work[p] = worksAt(s, p);
        for (int p = 0; p < work.length; p++) {
            if (work[p] == NONE || s.ills.containsKey(p)) continue;
            int skill = s.skills.get(p)[work[p]];
            for (int h : s.helps.keySet()) {
                if (s.helps.get(h) == p && !s.ills.containsKey(h)) skill = Math.max(skill, s.skills.get(h)[work[p]]);
            }
            s.stores[work[p]] += trades.get(work[p])[1] * skill;
        }
        int lacks = 0;
        for (int t = 0; t < n; t++) {
            int need = trades.get(t)[0];
            if ((s.round + 1) % 4 == 0) need = need * (10 + tunes[1]) / 10;
            int lack = Math.max(0, need - s.stores[t]);
            s.stores[t] = Math.max(0, s.stores[t] - need);
            s.lacked[t] += lack;
            lacks += lack;
        }
        if (lacks >= tunes[2]) s.fell++;
        boolean fades = tunes[0] > 0 && (s.round + 1) % tunes[0] == 0;
        for (int p = 0; p < work.length; p++) {
            int[] row = s.skills.get(p);
            int kept = s.ills.containsKey(p) ? NONE : work[p];
            for (int t = 0; t < 6; t++) {
                if (t == kept) row[t] = Math.min(9, row[t] + 1);
                else if (fades) row[t] = Math.max(0, row[t] - 1);
            }
            int steps = stepsToWork(s, p);
            s.places.set(p, (s.places.get(p) + (steps == NONE ? 0 : steps) + 1) % n);
        }
        s.helps.forEach((h, q) -> s.favours.merge(q + " owes " + h, 1, Integer::sum));
        s.helps.clear();
        s.ills.clear();
        s.round++;
        return lacks;
    }

    int rounds(State s, int n) {
        int lacks = 0;
        for (int i = 0; i < n && s.round < 99; i++) lacks += round(s);
        return lacks;
    }

    int go(int n) {
        if (n < 1 || n > 99) return BAD;
        if (now.round == 99 || trades.isEmpty()) return STATE;
        return rounds(now, n);
    }

    int help(int p, int q) {
        if (noPerson(p) || noPerson(q) || p == q) return BAD;
        if (now.helps.containsKey(p) || now.helps.containsValue(q)) return STATE;
        now.helps.put(p, q);
        return 1;
    }

    int ill(int p) {
        if (noPerson(p)) return BAD;
        return now.ills.put(p, true) == null ? 1 : 0;
    }

    int oil(int k) {
        if (noTrade(k)) return BAD;
        if (trades.size() == 1) return STATE;
        int next = (k + 1) % trades.size();
        int moved = now.wheel.get(k);
        now.wheel.set(k, now.wheel.get(next));
        now.wheel.set(next, moved);
        return now.wheel.get(k);
    }

    int favours(int q, int p) {
        if (noPerson(p) || noPerson(q) || p == q) return BAD;
        return now.favours.getOrDefault(q + " owes " + p, 0);
    }

    int now(int what) {
        if (what < 0 || what > 3) return BAD;
        int lacked = 0, stores = 0;
        for (int t = 0; t < 6; t++) {
            lacked += now.lacked[t];
            stores += now.stores[t];
        }
        return new int[] {now.round, lacked, now.fell, stores}[what];
    }

    int anew() {
        int was = now.round;
        now = first.copy();
        return was;
    }

    // ---- foretold

    boolean badAhead(int n, int what) {
        return n < 1 || n > 40 || what < 0 || what > 1;
    }

    int lacking(int n, int what) {
        if (badAhead(n, what)) return BAD;
        if (trades.isEmpty()) return STATE;
        State s = now.copy();
        int lacks = rounds(s, n);
        return what == 0 ? lacks : s.fell - now.fell;
    }

    void allOrders(List<Integer> begun, List<List<Integer>> all) {
        if (begun.size() == trades.size()) {
            all.add(new ArrayList<>(begun));
            return;
        }
        for (int t = 0; t < trades.size(); t++) {
            if (begun.contains(t)) continue;
            begun.add(t);
            allOrders(begun, all);
            begun.remove(begun.size() - 1);
        }
    }

    int best(int n, int what) {
        if (badAhead(n, what)) return BAD;
        if (trades.isEmpty()) return STATE;
        List<List<Integer>> all = new ArrayList<>();
        allOrders(new ArrayList<>(), all);
        int least = Integer.MAX_VALUE;
        List<Integer> first = null;
        for (List<Integer> order : all) {
            State s = now.copy();
            s.wheel = order;
            int lacks = rounds(s, n);
            if (lacks < least) {
                least = lacks;
                first = order;
            }
        }
        StringBuilder figures = new StringBuilder();
        for (int t : first) figures.append(t);
        return what == 0 ? Integer.parseInt(figures.toString()) : least;
    }

    int taught(int n, int what) {
        if (badAhead(n, what)) return BAD;
        if (trades.isEmpty()) return STATE;
        int base = rounds(now.copy(), n);
        int least = Integer.MAX_VALUE, who = NONE;
        for (int p = skips.size() - 1; p >= 0; p--) {
            for (int t = trades.size() - 1; t >= 0; t--) {
                if (now.skills.get(p)[t] >= 9) continue;
                State s = now.copy();
                s.skills.get(p)[t]++;
                int lacks = rounds(s, n);
                if (lacks <= least) {
                    least = lacks;
                    who = 10 * p + t;
                }
            }
        }
        if (who == NONE || least >= base) return NONE;
        return what == 0 ? who : least;
    }

    int standsIn(int p, int n) {
        if (noPerson(p) || n < 1 || n > 40) return BAD;
        if (trades.isEmpty()) return STATE;
        int[] lacks = new int[skips.size()];
        for (int q = 0; q < lacks.length; q++) {
            State s = now.copy();
            s.ills.put(p, true);
            int place = s.places.get(p);
            s.places.set(p, s.places.get(q));
            s.places.set(q, place);
            lacks[q] = rounds(s, n);
        }
        int least = Integer.MAX_VALUE;
        for (int l : lacks) least = Math.min(least, l);
        if (lacks[p] == least) return p;
        int q = 0;
        while (lacks[q] != least) q++;
        return q;
    }

    int madeBy(int t, int mark, int r) {
        if (noTrade(t) || mark < 0 || mark > 9 || r < now.round || r > 99) return BAD;
        State s = now.copy();
        rounds(s, r - now.round);
        int bits = 0;
        for (int p = 0; p < skips.size(); p++) {
            if (!s.ills.containsKey(p) && worksAt(s, p) == t && s.skills.get(p)[t] == mark) bits |= 1 << p;
        }
        return bits;
    }

    int again() {
        if (trades.isEmpty()) return STATE;
        State s = now.copy();
        for (int r = 1; r <= 60; r++) {
            s.round = 0;
            round(s);
            boolean same = true;
            for (int p = 0; p < skips.size(); p++) same &= worksAt(s, p) == worksAt(now, p);
            if (same) return r;
        }
        return NONE;
    }

    // ---- kinds, images

    int rate(int kind, int p) {
        if (kind < 0 || kind > 5 || noPerson(p)) return NO;
        int all = 0, most = 0, least = trades.isEmpty() ? 0 : 99;
        for (int t = 0; t < trades.size(); t++) {
            int skill = now.skills.get(p)[t];
            all += skill;
            most = Math.max(most, skill);
            least = Math.min(least, skill);
        }
        int place = now.places.get(p);
        trace += new int[] {1, 11, 101, 1101, 10011, 100001}[kind];
        return new int[] {all, all + place, all + most, 2 * (all + most), all + place - least, all - now.round}[kind];
    }

    int keep(int image) {
        if (image < 0 || image > 1) return BAD;
        images[image] = now.copy();
        return now.round;
    }

    int back(int image) {
        if (image < 0 || image > 1) return BAD;
        if (images[image] == null) return STATE;
        now = images[image].copy();
        return now.round;
    }

    int count(int what) {
        if (what < 0 || what > 4) return BAD;
        return new int[] {trades.size(), skips.size(), now.helps.size(), now.ills.size(), text.length()}[what];
    }

    long trace() {
        return trace;
    }
}
