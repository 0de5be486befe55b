/** For each promise: ordinary inputs, the edges that the document names, wrong inputs. The answers are reckoned by hand. */
public final class PromiseTests {
    private static final int BAD = TradeWheel.BAD, STATE = TradeWheel.STATE, FULL = TradeWheel.FULL;
    private static final int NONE = TradeWheel.NONE, NO = TradeWheel.NO;
    private static final int LOW = Scenes.LOW, HIGH = Scenes.HIGH;
    private static final String SIX_TRADES = Scenes.SIX_TRADES, SIX_PEOPLE = Scenes.SIX_PEOPLE;
    /** Worked out round by round in goesByRounds(). */
    private static final String MILL = "trade 10 2;trade 4 1;person;person;person;skill 0 0 5;skill 1 1 0;skip 2 0;";
    /** One trade and three people, the last of whom skips it. */
    private static final String ONE = "trade 20 1;person;person;person;skill 0 0 2;skill 1 0 7;skip 2 0;";

    private static final Checks c = new Checks("PromiseTests");

    public static void main(String[] args) {
        promise1();
        promise2();
        promise3();
        promise4();
        promise4Faults();
        promise4Anew();
        promise5();
        promise6();
        promise7();
        promise8();
        promise9();
        promise10();
        promise10Skills();
        promise10Helps();
        promise10Full();
        promise11();
        promise12();
        promise13();
        promise14();
        promise15();
        promise16();
        promise17();
        promise18();
        promise19();
        promise20();
        promise21();
        promise22();
        promise23();
        promise24And25();
        promise26();
        promise27();
        c.close();
    }

    private static void promise1() {
        TradeWheel x = new TradeWheel();
        for (int what = 0; what < 5; what++) c.due("1: count " + what, x.count(what), 0);
        for (int what = 0; what < 4; what++) c.due("1: now " + what, x.now(what), 0);
        c.due("1: trace", x.trace(), 0);
        c.due("1: FADE", x.tune(0, 4), 4);
        c.due("1: WINTER", x.tune(1, 5), 5);
        c.due("1: FALL", x.tune(2, 10), 10);
        c.due("1: trade", x.trade(0, 0), BAD);
        c.due("1: person", x.person(0, 0), BAD);
        c.due("1: skill", x.skill(0, 0), BAD);
        c.due("1: wheel", x.wheel(0), BAD);
        c.due("1: go", x.go(1), STATE);
        c.due("1: oil", x.oil(0), BAD);
        c.due("1: anew", x.anew(), 0);
        c.due("1: image 0", x.back(0), STATE);
        c.due("1: image 1", x.back(1), STATE);
        c.due("1: clear", x.clear(), 0);
        c.due("1: an empty text", x.read(), 0);
    }

    private static void promise2() {
        TradeWheel x = new TradeWheel();
        for (int n : new int[] {LOW, -1, 0, 9, HIGH}) c.due("2: type n " + n, x.type(59, n), BAD);
        c.due("2: nothing came", x.count(4), 0);
        c.due("2: one byte", x.type(' ', 1), 1);
        c.due("2: highest first", x.type(Checks.asNumber("person"), 6), 7);
        c.due("2: lowest byte alone", x.type(0x4141414141414100L | ';', 1), 8);
        c.due("2: read", x.read(), 1);
        c.due("2: eight bytes", x.type(Checks.asNumber(" person;"), 8), 8);
        c.due("2: read eight", x.read(), 1);
        x.type(-1L, 8);
        c.due("2: bytes of 255", x.read(), -10);
        x.clear();
        for (int i = 1; i <= 49; i++) c.due("2: the " + i + "th", x.type(Checks.asNumber("        "), 8), 8 * i);
        c.due("2: to 399", x.type(0x2020202020202020L, 7), 399);
        c.due("2: FULL by one", x.type(0x2020L, 2), FULL);
        c.due("2: BAD ahead of FULL", x.type(0x2020L, 9), BAD);
        c.due("2: still 399", x.count(4), 399);
        c.due("2: the 400th", x.type(0x20L, 1), 400);
        c.due("2: FULL", x.type(0x20L, 1), FULL);
        c.due("2: FULL for eight", x.type(0x20L, 8), FULL);
        c.due("2: 400 blanks are no ITEM", x.read(), 0);
        c.due("2: room again", x.type(0x20L, 1), 1);
    }

    private static void promise3() {
        TradeWheel x = new TradeWheel();
        c.due("3: nothing", x.clear(), 0);
        Checks.say(x, "person;person;");
        c.due("3: bytes", x.clear(), 14);
        c.due("3: empty", x.count(4), 0);
        c.due("3: cleared", x.clear(), 0);
        Checks.say(x, "person;");
        c.due("3: only what came since", x.read(), 1);
        c.due("3: people stay", x.clear(), 0);
        c.due("3: people", x.count(1), 1);
    }

    private static void reads(String text, int want) {
        TradeWheel x = new TradeWheel();
        Checks.say(x, text);
        c.due("4: read [" + text + "]", x.read(), want);
        c.due("4: bytes behind [" + text + "]", x.count(4), want < 0 ? text.length() : 0);
    }

    private static void faults(String text, int at) {
        reads(text, -10 - at);
    }

    private static void promise4() {
        reads("", 0);
        reads("   ", 0);
        reads("person;", 1);
        reads("  person  ;  ", 1);
        reads("trade 0 1;", 1);
        reads("trade 99 9;", 1);
        reads("trade0 1;", 1);
        reads("trade 3  4 ; person;skill0 0 9 ;at 0 0;skip 0 0;wheel 0;", 6);
        reads("trade 1 1;trade 2 2;wheel1 0;wheel 0 1;", 4);
        reads(SIX_TRADES + SIX_PEOPLE, 12);
        reads("trade 1 1;person;skill 0 0 1;person;skill 1 0 1;", 5);
        reads("trade 1 1;wheel 0;person;", 3);
        TradeWheel x = Checks.of("trade 7 3;trade 8 9;person;skill 0 0 1;skill 0 0 8;person;at 1 0;at 1 1;wheel 0 1;wheel 1 0;person;");
        c.due("4: the latest SKILL", x.skill(0, 0), 8);
        c.due("4: SKILL at first", x.skill(0, 1), 3);
        c.due("4: the latest place", x.person(1, 0), 1);
        c.due("4: place by the whole text", x.person(2, 0), 0);
        c.due("4: the latest wheel", x.wheel(0), 1);
        c.due("4: NEED", x.trade(1, 0), 8);
        c.due("4: YIELD", x.trade(1, 1), 9);
        x = Checks.of("person;person;person;person;person;person;trade 1 1;trade 1 1;trade 1 1;trade 1 1;at 5 0;");
        for (int p = 0; p < 5; p++) c.due("4: place of " + p, x.person(p, 0), p % 4);
        c.due("4: place of 5", x.person(5, 0), 0);
    }

    private static void promise4Faults() {
        String pair = "trade 1 1;person;";
        faults(";", 0);
        faults("  7;", 2);
        faults("Person;", 0);
        faults("person,", 6);
        faults("person;\t", 7);
        faults("person;\u00e9", 7);
        faults("person;\u0000", 7);
        faults("persons;", 0);
        faults("perso", 0);
        faults("personz;", 0);
        faults("persona;", 0);
        faults("person`", 6);
        faults("person{", 6);
        faults("person/", 6);
        faults("person:", 6);
        faults("frade 1 1;", 0);
        faults("trads 1 1;", 0);
        faults("personperson;", 0);
        faults("person person;", 7);
        faults("person 1;", 7);
        faults("person", 6);
        faults("person  ", 8);
        faults("person;at", 9);
        faults("trade", 5);
        faults("trade 1", 7);
        faults("trade 1 1", 9);
        faults("trade;", 5);
        faults("trade 1;", 7);
        faults("trade 1 1 1;", 10);
        faults("trade 100 1;", 6);
        faults("trade 4294967296 1;", 6);
        faults("trade 00 1;", 6);
        faults("trade 07 1;", 6);
        faults("trade 1 0;", 8);
        faults("trade 1 10;", 8);
        faults("trade 1 01;", 8);
        faults("trade -1 1;", 6);
        faults("trade 11;", 8);
        faults("trade a 1;", 6);
        faults("trade 1 1;;", 10);
        faults(SIX_TRADES + "trade 0 1;", 60);
        faults(SIX_PEOPLE + "person;", 42);
        faults(pair + "skill 0 0 1;trade 1 1;", 29);
        faults(pair + "skip 0 0;trade 1 1;", 26);
        faults(pair + "at 0 0;trade 1 1;", 24);
        faults(pair + "wheel 0;trade 1 1;", 25);
        faults(pair + "skill;", 22);
        faults(pair + "skill 0;", 24);
        faults(pair + "skip;", 21);
        faults(pair + "skip 0;", 23);
        faults(pair + "at;", 19);
        faults(pair + "at 0;", 21);
        faults("trade 1 1;" + pair + "skill 1 0 1;", 33);
        faults("trade 1 1;" + pair + "skip 1 0;", 32);
        faults("trade 1 1;" + pair + "at 1 0;", 30);
        faults(pair + "skill 1 0 1;", 23);
        faults(pair + "skill 0 1 1;", 25);
        faults(pair + "skill 0 0 10;", 27);
        faults(pair + "skill 0 0;", 26);
        faults(pair + "skill 0 0 1 1;", 29);
        faults(pair + "skip 1 0;", 22);
        faults(pair + "skip 0 1;", 24);
        faults(pair + "skip 0 0 0;", 26);
        faults(pair + "at 1 0;", 20);
        faults(pair + "at 0 1;", 22);
        faults(pair + "wheel;", 22);
        faults(pair + "wheel 1;", 23);
        faults(pair + "wheel 0 0;", 25);
        faults("wheel;", 0);
        faults("person;wheel 0;", 7);
        faults("skill 0 0 1;", 6);
        faults("person;skill 0 0 1;", 15);
        faults("trade 1 1;trade 1 1;wheel 1;", 27);
        faults("trade 1 1;trade 1 1;wheel 1 1;", 28);
        faults("trade 1 1;trade 1 1;wheel 1 2;", 28);
        faults("trade 1 1;trade 1 1;wheel 1 100;", 28);
        faults("trade 1 1;trade 1 1;wheel 1", 27);
        faults("trade 1 1;skill 0 0 1;person;", 16);
        faults("person 1 ?", 7);
        faults("person ? 1", 7);
        StringBuilder full = new StringBuilder("person");
        while (full.length() < 400) full.append(' ');
        faults(full.toString(), 400);
        faults(" ".repeat(394) + "person", 400);
        faults(" ".repeat(391) + "trade 1 1", 400);
        reads(" ".repeat(393) + "person;", 1);
        // As many TOKENS as a text can have.
        faults(full.toString().replaceAll(".", ";"), 0);
    }

    private static void promise4Anew() {
        TradeWheel x = Checks.of(MILL);
        x.tune(0, 1);
        x.tune(1, 20);
        x.tune(2, 1);
        x.rate(0, 0);
        x.keep(0);
        x.go(3);
        x.help(0, 1);
        x.ill(1);
        Checks.say(x, "person;trade 5 1;oops");
        c.due("4: a FAULT", x.read(), -27);
        c.due("4: TRADES stay", x.count(0), 2);
        c.due("4: PEOPLE stay", x.count(1), 3);
        c.due("4: helps stay", x.count(2), 1);
        c.due("4: THE TEXT stays", x.count(4), 21);
        c.due("4: ROUND stays", x.now(0), 3);
        c.due("4: NEED stays", x.trade(0, 0), 10);
        c.due("4: IMAGE stays", x.back(0), 0);
        x.go(2);
        x.help(0, 1);
        x.ill(1);
        x.clear();
        Checks.say(x, "person;trade 5 1;person;");
        c.due("4: told anew", x.read(), 3);
        c.due("4: THE TEXT is empty", x.count(4), 0);
        c.due("4: TRADES anew", x.count(0), 1);
        c.due("4: PEOPLE anew", x.count(1), 2);
        c.due("4: no helps", x.count(2), 0);
        c.due("4: nobody ILL", x.count(3), 0);
        c.due("4: ROUND 0", x.now(0), 0);
        c.due("4: nothing LACKED", x.now(1), 0);
        c.due("4: none FELL", x.now(2), 0);
        c.due("4: SKILL at first", x.skill(0, 0), 3);
        c.due("4: no SKIPS left", x.person(1, 4), 0);
        c.due("4: IMAGES are gone", x.back(0), STATE);
        c.due("4: FADE stays", x.tune(0, 4), 1);
        c.due("4: WINTER stays", x.tune(1, 5), 20);
        c.due("4: FALL stays", x.tune(2, 10), 1);
        c.due("4: THE TRACE goes on", x.trace(), 1);
        Checks.say(x, "trade 1 1;trade 2 2;person;person;wheel 1 0;skip 0 0;at 1 0;");
        c.due("4: a third", x.read(), 7);
        Checks.say(x, "trade 1 1;");
        c.due("4: a fourth", x.read(), 1);
        Checks.say(x, "trade 1 1;trade 2 2;person;person;");
        c.due("4: a fifth, as if there were no third", x.read(), 4);
        c.due("4: no SKIPS of the third", x.person(0, 4), 0);
        c.due("4: no place of the third", x.person(1, 0), 1);
        for (int k = 0; k < 2; k++) c.due("4: no wheel of the third", x.wheel(k), k);
        x.keep(1);
        c.due("4: an empty text tells nobody", x.read(), 0);
        c.due("4: no TRADES", x.count(0), 0);
        c.due("4: no PEOPLE", x.count(1), 0);
        c.due("4: IMAGE 1 is gone", x.back(1), STATE);
    }

    private static void promise5() {
        TradeWheel x = Checks.of(MILL);
        c.due("5: NEED", x.trade(0, 0), 10);
        c.due("5: YIELD", x.trade(0, 1), 2);
        c.due("5: STORE at first", x.trade(0, 2), 0);
        c.due("5: LACKED at first", x.trade(0, 3), 0);
        x.go(4);
        c.due("5: STORE 0", x.trade(0, 2), 0);
        c.due("5: STORE 1", x.trade(1, 2), 9);
        c.due("5: LACKED 0", x.trade(0, 3), 9);
        c.due("5: LACKED 1", x.trade(1, 3), 1);
        for (int t : new int[] {LOW, -1, 2, 6, HIGH}) c.due("5: trade " + t, x.trade(t, 0), BAD);
        for (int what : new int[] {LOW, -1, 4, HIGH}) c.due("5: what " + what, x.trade(0, what), BAD);
    }

    private static void promise6() {
        TradeWheel x = Checks.of(MILL);
        c.due("6: told", x.skill(0, 0), 5);
        c.due("6: told 0", x.skill(1, 1), 0);
        c.due("6: not told", x.skill(2, 1), 3);
        for (int bad : new int[] {LOW, -1, 6, HIGH}) {
            c.due("6: person " + bad, x.skill(bad, 0), BAD);
            c.due("6: trade " + bad, x.skill(0, bad), BAD);
        }
        c.due("6: person 3", x.skill(3, 0), BAD);
        c.due("6: trade 2", x.skill(0, 2), BAD);
    }

    private static void promise7() {
        TradeWheel x = Checks.of(MILL);
        c.due("7: place", x.person(2, 0), 0);
        c.due("7: WORKS AT its place's", x.person(0, 1), 0);
        c.due("7: WORKS AT the next", x.person(2, 1), 1);
        c.due("7: SKIPS", x.person(2, 4), 1);
        c.due("7: SKIPS none", x.person(0, 4), 0);
        c.due("7: helps none", x.person(0, 3), NONE);
        c.due("7: not ILL", x.person(1, 2), 0);
        x.help(0, 2);
        x.ill(1);
        c.due("7: helps", x.person(0, 3), 2);
        x.help(1, 0);
        c.due("7: helps 0", x.person(1, 3), 0);
        c.due("7: is helped, helps none", x.person(2, 3), NONE);
        c.due("7: ILL", x.person(1, 2), 1);
        c.due("7: ILL, and its TRADE", x.person(1, 1), 1);
        x = Checks.of("trade 1 1;trade 1 1;trade 1 1;person;person;skip 0 2;skip 0 0;at 0 2;skip 1 0;skip 1 1;skip 1 2;skip 1 2;");
        c.due("7: behind the last the first", x.person(0, 1), 1);
        c.due("7: SKIPS two", x.person(0, 4), 5);
        c.due("7: SKIPS all", x.person(1, 1), NONE);
        c.due("7: all bits", x.person(1, 4), 7);
        x = Checks.of("person;person;");
        c.due("7: no TRADES, no work", x.person(1, 1), NONE);
        c.due("7: no TRADES, place 0", x.person(1, 0), 0);
        for (int p : new int[] {LOW, -1, 2, 6, HIGH}) c.due("7: person " + p, x.person(p, 0), BAD);
        for (int what : new int[] {LOW, -1, 5, HIGH}) c.due("7: what " + what, x.person(0, what), BAD);
    }

    private static void promise8() {
        TradeWheel x = Checks.of("trade 1 1;trade 1 1;trade 1 1;");
        for (int k = 0; k < 3; k++) c.due("8: at first " + k, x.wheel(k), k);
        for (int k : new int[] {LOW, -1, 3, 6, HIGH}) c.due("8: place " + k, x.wheel(k), BAD);
        x = Checks.of("trade 1 1;trade 1 1;trade 1 1;wheel 2 0 1;");
        c.due("8: told 0", x.wheel(0), 2);
        c.due("8: told 1", x.wheel(1), 0);
        c.due("8: told 2", x.wheel(2), 1);
    }

    private static void promise9() {
        TradeWheel x = new TradeWheel();
        int[][] edges = {{0, 0, 9}, {1, 0, 20}, {2, 1, 99}};
        int[] was = {4, 5, 10};
        for (int[] e : edges) {
            for (int v : new int[] {LOW, e[1] - 1, e[2] + 1, HIGH}) c.due("9: " + e[0] + " " + v, x.tune(e[0], v), BAD);
            c.due("9: first of " + e[0], x.tune(e[0], e[1]), was[e[0]]);
            c.due("9: low of " + e[0], x.tune(e[0], e[2]), e[1]);
            c.due("9: high of " + e[0], x.tune(e[0], e[2]), e[2]);
        }
        for (int what : new int[] {LOW, -1, 3, HIGH}) c.due("9: what " + what, x.tune(what, 1), BAD);
        c.due("9: FADE is its own", x.tune(0, 1), 9);
        c.due("9: WINTER is its own", x.tune(1, 1), 20);
        x = Checks.of(MILL);
        x.tune(1, 0);
        c.due("9: WINTER 0", x.go(4), 5);
        x = Checks.of(MILL);
        x.tune(1, 20);
        c.due("9: WINTER 20", x.go(4), 25);
        x = Checks.of(MILL);
        x.tune(2, 4);
        x.go(4);
        c.due("9: FALL 4", x.now(2), 2);
        x = Checks.of(MILL);
        x.tune(2, 1);
        x.go(4);
        c.due("9: FALL 1", x.now(2), 3);
    }

    private static void promise10() {
        TradeWheel x = Checks.of(MILL);
        c.due("10: round 0", x.go(1), 1);
        c.due("10: STORE behind it", x.now(3), 0);
        c.due("10: SKILL 0 grew", x.skill(0, 0), 6);
        c.due("10: the other did not", x.skill(0, 1), 3);
        c.due("10: SKILL of who skips grew", x.skill(2, 1), 4);
        c.due("10: place of 0", x.person(0, 0), 1);
        c.due("10: place of 1", x.person(1, 0), 0);
        c.due("10: behind the TRADE worked at", x.person(2, 0), 0);
        c.due("10: round 1", x.go(1), 4);
        c.due("10: STORES", x.trade(1, 2), 3);
        c.due("10: round 2", x.go(1), 0);
        c.due("10: STORE 0", x.trade(0, 2), 2);
        c.due("10: STORE 1", x.trade(1, 2), 5);
        c.due("10: round 3, winter", x.go(1), 5);
        c.due("10: STORE 1 in winter", x.trade(1, 2), 9);
        c.due("10: ROUND", x.now(0), 4);
        x.anew();
        c.due("10: four at once", x.go(4), 10);
        for (int n : new int[] {LOW, -1, 0, 100, HIGH}) c.due("10: n " + n, x.go(n), BAD);
        x = Checks.of("trade 1 1;");
        c.due("10: nobody works, 24 winters of 1", x.go(99), 99);
        c.due("10: ROUND 99", x.now(0), 99);
        c.due("10: at ROUND 99", x.go(1), STATE);
        c.due("10: BAD at ROUND 99", x.go(0), BAD);
        x = Checks.of("trade 2 1;");
        c.due("10: 98 rounds, 24 winters", x.go(98), 2 * 98 + 24);
        c.due("10: as many as are left", x.go(99), 2);
        x = Checks.of("person;");
        c.due("10: no TRADES", x.go(1), STATE);
        c.due("10: BAD without TRADES", x.go(100), BAD);
    }

    private static void promise10Skills() {
        TradeWheel x = Checks.of(MILL);
        x.go(4);
        int[][] want = {{6, 5}, {5, 1}, {2, 7}};
        for (int p = 0; p < 3; p++) {
            for (int t = 0; t < 2; t++) c.due("10: faded " + p + " " + t, x.skill(p, t), want[p][t]);
        }
        x = Checks.of(MILL);
        x.tune(0, 0);
        x.go(4);
        c.due("10: FADE 0", x.skill(2, 0), 3);
        x = Checks.of(MILL);
        x.tune(0, 3);
        x.go(2);
        c.due("10: not yet faded", x.skill(2, 0), 3);
        x.go(1);
        c.due("10: faded behind the third", x.skill(2, 0), 2);
        x.go(9);
        c.due("10: faded to 0, no less", x.skill(2, 0), 0);
        c.due("10: never above 9", x.skill(2, 1), 9);
        x = Checks.of("trade 0 1;trade 0 1;person;person;skip 1 0;skip 1 1;at 1 1;");
        x.tune(0, 1);
        x.ill(0);
        x.go(1);
        c.due("10: who is ILL fades", x.skill(0, 0), 2);
        c.due("10: in all", x.skill(0, 1), 2);
        c.due("10: an ILL one goes on", x.person(0, 0), 1);
        c.due("10: who works at none fades", x.skill(1, 0), 2);
        c.due("10: who works at none goes behind its own place", x.person(1, 0), 0);
        c.due("10: the ILL one made nothing", x.now(3), 0);
        c.due("10: nobody is ILL then", x.count(3), 0);
    }

    private static void promise10Helps() {
        TradeWheel x = Checks.of(ONE);
        c.due("10: no help", x.lacking(1, 0), 20 - 2 - 7);
        x.help(1, 0);
        c.due("10: help", x.lacking(1, 0), 20 - 7 - 7);
        x.ill(1);
        c.due("10: help of an ILL one", x.go(1), 20 - 2);
        c.due("10: a FAVOUR all the same", x.favours(0, 1), 1);
        c.due("10: helps are over", x.count(2), 0);
        x = Checks.of(ONE);
        x.help(0, 1);
        c.due("10: help of less SKILL", x.go(1), 20 - 2 - 7);
        c.due("10: SKILL of who is helped grows from its own", x.skill(1, 0), 8);
        c.due("10: SKILL of who helps grows", x.skill(0, 0), 3);
        x = Checks.of(ONE);
        x.help(2, 0);
        c.due("10: help of who works at none", x.lacking(1, 0), 20 - 3 - 7);
        x.ill(0);
        c.due("10: help for an ILL one", x.go(1), 20 - 7);
        c.due("10: its FAVOUR", x.favours(0, 2), 1);
        c.due("10: help lasts one ROUND", x.go(1), 20 - 2 - 8);
    }

    private static void promise10Full() {
        TradeWheel x = Checks.of(SIX_TRADES + SIX_PEOPLE);
        x.help(5, 4);
        x.ill(5);
        c.due("10: six and six", x.go(1), 0);
        c.due("10: what five made", x.now(3), 15);
        c.due("10: the last goes to the first", x.person(5, 0), 0);
        c.due("10: a FAVOUR among the last", x.favours(4, 5), 1);
        c.due("10: none lacked", x.now(1), 0);
        c.due("10: nobody should be taught", x.taught(40, 0), NONE);
        c.due("10: SKILL of the last fades", x.go(3) + x.skill(5, 5), 2);
        x = Checks.of("trade 20 1;trade 0 1;person;person;skill 0 0 7;skill 0 1 1;skill 1 0 2;skill 1 1 9;at 0 1;at 1 0;");
        x.help(0, 1);
        c.due("10: SKILL of who helps in the TRADE of who is helped", x.go(1), 13);
    }

    private static void promise11() {
        TradeWheel x = Checks.of(ONE);
        c.due("11: help", x.help(0, 1), 1);
        c.due("11: helps already", x.help(0, 2), STATE);
        c.due("11: is helped already", x.help(2, 1), STATE);
        c.due("11: again", x.help(0, 1), STATE);
        c.due("11: back", x.help(1, 0), 1);
        c.due("11: alike", x.help(2, 2), BAD);
        c.due("11: alike, though it helps", x.help(0, 0), BAD);
        for (int bad : new int[] {LOW, -1, 3, 6, HIGH}) {
            c.due("11: p " + bad, x.help(bad, 0), BAD);
            c.due("11: q " + bad, x.help(0, bad), BAD);
        }
        c.due("11: two helps", x.count(2), 2);
        x.go(99);
        c.due("11: at ROUND 99, too", x.help(0, 1), 1);
    }

    private static void promise12() {
        TradeWheel x = Checks.of(ONE);
        c.due("12: ill", x.ill(1), 1);
        c.due("12: already", x.ill(1), 0);
        c.due("12: stays so", x.person(1, 2), 1);
        c.due("12: another", x.ill(2), 1);
        for (int p : new int[] {LOW, -1, 3, 6, 32, HIGH}) c.due("12: p " + p, x.ill(p), BAD);
        c.due("12: two", x.count(3), 2);
        c.due("12: makes nothing", x.go(1), 20 - 2);
        c.due("12: over", x.person(1, 2), 0);
    }

    private static void promise13() {
        TradeWheel x = Checks.of("trade 1 1;trade 1 1;trade 1 1;person;person;person;");
        c.due("13: oil 0", x.oil(0), 1);
        c.due("13: the next", x.wheel(1), 0);
        c.due("13: people stay", x.person(0, 0), 0);
        c.due("13: at another TRADE", x.person(0, 1), 1);
        c.due("13: the last and the first", x.oil(2), 1);
        c.due("13: the first then", x.wheel(0), 2);
        c.due("13: the middle stays", x.wheel(1), 0);
        for (int k : new int[] {LOW, -1, 3, 6, HIGH}) c.due("13: k " + k, x.oil(k), BAD);
        x = Checks.of("trade 1 1;");
        c.due("13: one TRADE", x.oil(0), STATE);
        c.due("13: one TRADE, place 1", x.oil(1), BAD);
        x = Checks.of("trade 1 1;trade 1 1;");
        c.due("13: two TRADES", x.oil(1), 0);
        c.due("13: changed", x.wheel(0), 1);
    }

    private static void promise14() {
        TradeWheel x = Checks.of(ONE);
        x.help(0, 1);
        c.due("14: not yet", x.favours(1, 0), 0);
        x.go(1);
        c.due("14: owed", x.favours(1, 0), 1);
        c.due("14: not the other way", x.favours(0, 1), 0);
        x.help(0, 1);
        x.help(2, 0);
        x.go(2);
        c.due("14: more", x.favours(1, 0), 2);
        c.due("14: another", x.favours(0, 2), 1);
        c.due("14: alike", x.favours(1, 1), BAD);
        for (int bad : new int[] {LOW, -1, 3, 6, HIGH}) {
            c.due("14: q " + bad, x.favours(bad, 0), BAD);
            c.due("14: p " + bad, x.favours(0, bad), BAD);
        }
    }

    private static void promise15() {
        TradeWheel x = Checks.of(MILL);
        x.tune(2, 5);
        x.go(4);
        c.due("15: ROUND", x.now(0), 4);
        c.due("15: LACKED", x.now(1), 10);
        c.due("15: FELL, at FALL", x.now(2), 1);
        c.due("15: STORES", x.now(3), 9);
        for (int what : new int[] {LOW, -1, 4, HIGH}) c.due("15: what " + what, x.now(what), BAD);
    }

    private static void promise16() {
        TradeWheel x = Checks.of("trade 9 1;trade 1 1;person;person;skill 1 1 8;at 0 1;wheel 1 0;");
        x.tune(2, 1);
        x.keep(0);
        x.help(0, 1);
        x.go(5);
        x.oil(0);
        x.ill(0);
        x.help(1, 0);
        x.rate(0, 0);
        Checks.say(x, "abc");
        c.due("16: the ROUND it was", x.anew(), 5);
        for (int what = 0; what < 4; what++) c.due("16: now " + what, x.now(what), 0);
        c.due("16: SKILL", x.skill(1, 1), 8);
        c.due("16: SKILL not told", x.skill(0, 1), 3);
        c.due("16: place", x.person(0, 0), 1);
        c.due("16: THE WHEEL", x.wheel(0), 1);
        c.due("16: LACKED", x.trade(0, 3), 0);
        c.due("16: helps", x.count(2), 0);
        c.due("16: ill ones", x.count(3), 0);
        c.due("16: FAVOURS", x.favours(1, 0), 0);
        c.due("16: THE TEXT stays", x.count(4), 3);
        c.due("16: FALL stays", x.tune(2, 9), 1);
        c.due("16: THE TRACE stays", x.trace(), 1);
        c.due("16: IMAGES stay", x.back(0), 0);
        c.due("16: at ROUND 0", x.anew(), 0);
    }

    private static void promise17() {
        TradeWheel x = Checks.of(MILL);
        x.tune(2, 4);
        c.due("17: one", x.lacking(1, 0), 1);
        c.due("17: four", x.lacking(4, 0), 10);
        c.due("17: FALLING", x.lacking(4, 1), 2);
        c.due("17: nothing changed", x.now(0), 0);
        x.go(2);
        c.due("17: from NOW", x.lacking(2, 0), 5);
        c.due("17: FALLING from NOW", x.lacking(2, 1), 1);
        x.ill(2);
        c.due("17: one ILL", x.lacking(1, 0), 0);
        x.ill(0);
        c.due("17: two ILL", x.lacking(1, 0), 10);
        c.due("17: they stay ILL", x.count(3), 2);
        for (int n : new int[] {LOW, -1, 0, 41, HIGH}) c.due("17: n " + n, x.lacking(n, 0), BAD);
        for (int what : new int[] {LOW, -1, 2, HIGH}) c.due("17: what " + what, x.lacking(1, what), BAD);
        x = Checks.of("trade 2 1;");
        c.due("17: forty, ten winters", x.lacking(40, 0), 90);
        x.go(97);
        c.due("17: as many as are left", x.lacking(40, 0), 4);
        x.go(2);
        c.due("17: none left", x.lacking(40, 0), 0);
        x = new TradeWheel();
        c.due("17: no TRADES", x.lacking(40, 1), STATE);
        c.due("17: BAD without TRADES", x.lacking(41, 1), BAD);
    }

    private static void promise18() {
        // Person 0 stands at place 0; only TRADE 2 needs anything, so it should be first.
        TradeWheel x = Checks.of("trade 0 1;trade 0 1;trade 3 1;person;");
        c.due("18: order", x.best(1, 0), 201);
        c.due("18: LACKING", x.best(1, 1), 0);
        c.due("18: two ROUNDS, of two orders the first", x.best(2, 0), 21);
        c.due("18: LACKING in two", x.best(2, 1), 3);
        c.due("18: nothing changed", x.wheel(0), 0);
        x.ill(0);
        c.due("18: ILL in the first: all lacks alike there, TRADE 2 second", x.best(2, 0), 21);
        c.due("18: its LACKING", x.best(2, 1), 3);
        x = Checks.of(SIX_TRADES);
        c.due("18: the first of all", x.best(40, 0), 12345);
        x = Checks.of("trade 4 1;trade 0 1;wheel 1 0;person;");
        c.due("18: from the told wheel", x.best(1, 0), 1);
        c.due("18: least", x.best(1, 1), 1);
        x.go(99);
        c.due("18: none left", x.best(5, 0), 1);
        c.due("18: nothing lacks", x.best(5, 1), 0);
        x = Checks.of("trade 1 1;trade 1 1;trade 1 1;trade 1 1;trade 1 1;trade 99 9;person;");
        c.due("18: six", x.best(1, 0), 501234);
        String nines = SIX_TRADES.replace("0 1", "9 1") + SIX_PEOPLE;
        x = Checks.of(nines + "skill 0 5 9;skill 1 4 9;skill 2 3 9;skill 3 2 9;skill 4 1 9;skill 5 0 9;");
        c.due("18: the last of all", x.best(1, 0), 543210);
        c.due("18: its LACKING", x.best(1, 1), 0);
        for (int n : new int[] {LOW, -1, 0, 41, HIGH}) c.due("18: n " + n, x.best(n, 0), BAD);
        for (int what : new int[] {LOW, -1, 2, HIGH}) c.due("18: what " + what, x.best(1, what), BAD);
        c.due("18: no TRADES", new TradeWheel().best(1, 0), STATE);
        c.due("18: BAD without TRADES", new TradeWheel().best(0, 0), BAD);
    }

    private static void promise19() {
        TradeWheel x = Checks.of("trade 9 1;trade 30 5;person;person;");
        // ROUND 0: person 0 makes 3 of 9, person 1 makes 15 of 30: 6 and 15 lack.
        c.due("19: base", x.lacking(1, 0), 21);
        c.due("19: who", x.taught(1, 0), 11);
        c.due("19: LACKING then", x.taught(1, 1), 16);
        c.due("19: nothing changed", x.skill(1, 1), 3);
        x.ill(1);
        c.due("19: the other", x.taught(1, 0), 0);
        c.due("19: LACKING with one ILL", x.taught(1, 1), 35);
        x.ill(0);
        c.due("19: both ILL", x.taught(1, 0), NONE);
        c.due("19: both ILL, LACKING", x.taught(1, 1), NONE);
        x = Checks.of("trade 99 1;person;person;");
        c.due("19: of several the first", x.taught(1, 0), 0);
        x = Checks.of("trade 99 1;person;person;skill 0 0 9;");
        c.due("19: SKILL below 9", x.taught(1, 0), 10);
        x = Checks.of("trade 99 1;person;skill 0 0 9;");
        c.due("19: nobody is below 9", x.taught(1, 0), NONE);
        x = Checks.of("trade 99 1;trade 99 1;person;skill 0 1 9;at 0 1;");
        c.due("19: nobody who works is below 9", x.taught(1, 0), NONE);
        x = Checks.of("trade 99 1;");
        c.due("19: nobody", x.taught(1, 1), NONE);
        x.go(99);
        c.due("19: none left", x.taught(1, 1), NONE);
        for (int n : new int[] {LOW, -1, 0, 41, HIGH}) c.due("19: n " + n, x.taught(n, 0), BAD);
        for (int what : new int[] {LOW, -1, 2, HIGH}) c.due("19: what " + what, x.taught(1, what), BAD);
        c.due("19: no TRADES", new TradeWheel().taught(1, 0), STATE);
        c.due("19: BAD without TRADES", new TradeWheel().taught(1, 2), BAD);
    }

    private static void promise20() {
        // Place 0 has the TRADE that feeds most; person 2 at place 2 is best at it, person 1 next.
        TradeWheel x = Checks.of("trade 50 5;trade 0 1;trade 0 1;person;person;person;skill 1 0 5;skill 2 0 9;");
        c.due("20: with the best", x.standsIn(0, 1), 2);
        c.due("20: a needless one with nobody", x.standsIn(1, 1), 1);
        c.due("20: nobody changed", x.person(0, 0), 0);
        c.due("20: nobody is ILL", x.count(3), 0);
        x.ill(2);
        c.due("20: besides those told", x.standsIn(0, 1), 1);
        x = Checks.of("trade 50 5;trade 0 1;trade 0 1;person;person;person;");
        c.due("20: of several the least", x.standsIn(0, 1), 1);
        x = Checks.of("trade 50 5;trade 0 1;person;person;at 0 1;at 1 0;");
        c.due("20: one's own, where no worse", x.standsIn(0, 1), 0);
        c.due("20: least number ahead of own", x.standsIn(1, 1), 0);
        x = Checks.of("trade 5 1;person;person;person;");
        c.due("20: all alike", x.standsIn(2, 40), 2);
        x.go(99);
        c.due("20: none left", x.standsIn(1, 40), 1);
        for (int n : new int[] {LOW, -1, 0, 41, HIGH}) c.due("20: n " + n, x.standsIn(0, n), BAD);
        for (int p : new int[] {LOW, -1, 3, 6, HIGH}) c.due("20: p " + p, x.standsIn(p, 1), BAD);
        x = Checks.of("person;");
        c.due("20: no TRADES", x.standsIn(0, 1), STATE);
        c.due("20: BAD without TRADES", x.standsIn(1, 1), BAD);
    }

    private static void promise21() {
        TradeWheel x = Checks.of(MILL);
        c.due("21: NOW", x.madeBy(0, 5, 0), 1);
        c.due("21: another mark", x.madeBy(0, 4, 0), 0);
        c.due("21: mark 0", x.madeBy(1, 0, 0), 2);
        c.due("21: who skips", x.madeBy(1, 3, 0), 4);
        c.due("21: not who works elsewhere", x.madeBy(0, 3, 0), 0);
        c.due("21: ROUND 1", x.madeBy(1, 4, 1), 4);
        c.due("21: ROUND 4", x.madeBy(0, 6, 4), 1);
        x.ill(2);
        c.due("21: not who is ILL", x.madeBy(1, 3, 0), 0);
        c.due("21: well in the next, and taught nothing", x.madeBy(1, 3, 1), 5);
        c.due("21: nothing changed", x.now(0), 0);
        x = Checks.of(ONE);
        x.help(1, 0);
        c.due("21: its own SKILL, helped or not", x.madeBy(0, 2, 0), 1);
        x.tune(0, 0);
        c.due("21: ROUND 99", x.madeBy(0, 9, 99), 3);
        for (int r : new int[] {LOW, -1, 100, HIGH}) c.due("21: r " + r, x.madeBy(0, 3, r), BAD);
        for (int t : new int[] {LOW, -1, 1, 6, HIGH}) c.due("21: t " + t, x.madeBy(t, 3, 0), BAD);
        for (int mark : new int[] {LOW, -1, 10, HIGH}) c.due("21: mark " + mark, x.madeBy(0, mark, 0), BAD);
        x.go(3);
        c.due("21: past", x.madeBy(0, 3, 2), BAD);
        c.due("21: NOW, at ROUND 3", x.madeBy(0, 5, 3), 1);
        c.due("21: the next of it", x.madeBy(0, 6, 4), 1);
        x.go(96);
        c.due("21: at ROUND 99", x.madeBy(0, 9, 99), 3);
        c.due("21: no TRADES", new TradeWheel().madeBy(0, 0, 0), BAD);
    }

    private static void promise22() {
        c.due("22: no TRADES", new TradeWheel().again(), STATE);
        TradeWheel x = Checks.of("trade 1 1;trade 1 1;trade 1 1;");
        c.due("22: nobody", x.again(), 1);
        x = Checks.of("trade 1 1;trade 1 1;trade 1 1;person;person;");
        c.due("22: once about", x.again(), 3);
        x.ill(0);
        c.due("22: ILL or not", x.again(), 3);
        x.go(99);
        c.due("22: past ROUND 99", x.again(), 3);
        c.due("22: nothing changed", x.now(0), 99);
        x = Checks.of("trade 1 1;trade 1 1;trade 1 1;person;person;skip 1 0;");
        c.due("22: three and two", x.again(), 6);
        x = Checks.of("trade 1 1;trade 1 1;person;skip 0 0;skip 0 1;");
        c.due("22: who works at none", x.again(), 1);
        x = Checks.of(SIX_TRADES + SIX_PEOPLE + "skip 1 0;skip 2 0;skip 2 1;skip 3 0;skip 3 1;skip 3 2;");
        c.due("22: six, five, four and three", x.again(), 60);
    }

    private static void promise23() {
        TradeWheel x = Checks.of("trade 9 1;trade 9 1;trade 9 1;person;person;skill 1 0 7;skill 1 1 4;at 1 2;");
        int[] want = {14, 16, 21, 42, 13, 14};
        for (int kind = 0; kind < 6; kind++) c.due("23: kind " + kind, x.rate(kind, 1), want[kind]);
        x.go(1);
        // TRADE 2 worked at: 7, 4, 4, at place 0 then, ROUND 1.
        int[] then = {15, 15, 22, 44, 11, 14};
        for (int kind = 0; kind < 6; kind++) c.due("23: kind then " + kind, x.rate(kind, 1), then[kind]);
        long trace = x.trace();
        for (int kind : new int[] {LOW, -1, 6, HIGH}) c.due("23: kind " + kind, x.rate(kind, 0), NO);
        for (int p : new int[] {LOW, -1, 2, 6, HIGH}) c.due("23: p " + p, x.rate(0, p), NO);
        c.due("23: no body was asked", x.trace(), trace);
        x = Checks.of("trade 9 1;trade 9 1;person;skill 0 0 1;skill 0 1 6;");
        c.due("23: the first SKILL is the least", x.rate(4, 0), 6);
        c.due("23: the last SKILL is the greatest", x.rate(2, 0), 13);
        x = Checks.of("person;");
        for (int kind = 0; kind < 6; kind++) c.due("23: no TRADES, kind " + kind, x.rate(kind, 0), 0);
        x = Checks.of("trade 1 1;person;skill 0 0 0;skip 0 0;");
        x.go(99);
        c.due("23: below 0", x.rate(5, 0), -99);
    }

    private static void promise24And25() {
        TradeWheel x = Checks.of(MILL);
        for (int image : new int[] {LOW, -1, 2, HIGH}) {
            c.due("24: image " + image, x.keep(image), BAD);
            c.due("25: image " + image, x.back(image), BAD);
        }
        c.due("25: none was kept", x.back(1), STATE);
        x.help(0, 1);
        x.go(2);
        x.help(1, 2);
        x.ill(0);
        x.oil(0);
        c.due("24: keep", x.keep(1), 2);
        c.due("25: only that one", x.back(0), STATE);
        x.go(7);
        x.help(0, 2);
        x.ill(1);
        x.ill(2);
        x.tune(0, 9);
        x.rate(0, 0);
        Checks.say(x, "abc");
        c.due("24: the other", x.keep(0), 9);
        c.due("25: back", x.back(1), 2);
        c.due("25: ROUND", x.now(0), 2);
        c.due("25: LACKED", x.now(1), 4);
        c.due("25: FELL", x.now(2), 0);
        c.due("25: STORES", x.trade(1, 2), 5);
        c.due("25: SKILL", x.skill(0, 1), 4);
        c.due("25: place", x.person(1, 0), 1);
        c.due("25: THE WHEEL", x.wheel(0), 1);
        c.due("25: helps", x.person(1, 3), 2);
        c.due("25: only these", x.count(2), 1);
        c.due("25: ill ones", x.person(0, 2), 1);
        c.due("25: only this one", x.count(3), 1);
        c.due("25: FAVOURS", x.favours(1, 0), 1);
        c.due("25: a FAVOUR not yet owed", x.favours(2, 1), 0);
        c.due("25: TUNES are not kept", x.tune(0, 4), 9);
        c.due("25: THE TRACE is not kept", x.trace(), 1);
        c.due("25: THE TEXT is not kept", x.count(4), 3);
        x.go(1);
        c.due("25: again the same", x.back(1), 2);
        c.due("25: the other", x.back(0), 9);
        c.due("25: its helps", x.person(0, 3), 2);
        c.due("25: its ill ones", x.count(3), 2);
        c.due("24: kept anew", x.keep(1), 9);
        c.due("25: the new one", x.back(1), 9);
    }

    private static void promise26() {
        TradeWheel x = Checks.of(MILL);
        x.help(0, 1);
        x.ill(0);
        x.ill(2);
        Checks.say(x, "abcd");
        x.help(1, 0);
        int[] want = {2, 3, 2, 2, 4};
        for (int what = 0; what < 5; what++) c.due("26: what " + what, x.count(what), want[what]);
        for (int what : new int[] {LOW, -1, 5, HIGH}) c.due("26: what " + what, x.count(what), BAD);
    }

    private static void promise27() {
        TradeWheel x = Checks.of(MILL);
        c.due("27: at first", x.trace(), 0);
        long[] asked = {1, 11, 101, 1101, 10011, 100001};
        long want = 0;
        for (int kind = 0; kind < 6; kind++) {
            want += asked[kind];
            x.rate(kind, 0);
            c.due("27: kind " + kind, x.trace(), want);
        }
        x.keep(0);
        x.rate(2, 0);
        x.back(0);
        x.anew();
        x.read();
        c.due("27: goes on", x.trace(), want + 101);
    }
}
