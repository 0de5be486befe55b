/** Promises 1 to 4 at their edges: a test for each sentence that names one. */
public final class TextEdgeTests {
    private static final int BAD = TradeWheel.BAD, STATE = TradeWheel.STATE, FULL = TradeWheel.FULL;
    private static final String SIX_TRADES = Scenes.SIX_TRADES, SIX_PEOPLE = Scenes.SIX_PEOPLE;
    private static final String PAIR = "trade 1 1;person;";
    private static final String TWO = "trade 1 1;trade 1 1;person;person;";
    private static final String[] BEHIND_TRADES = {"skill 0 0 1;", "skip 0 0;", "at 0 0;", "wheel 0;"};

    private static final Checks c = new Checks("TextEdgeTests");

    public static void main(String[] args) {
        newObjectHoldsNothing();
        newObjectIsItsOwn();
        typeTakesOneToEightBytes();
        typeTakesTheLowestBytes();
        typeTakesBytesOfAnyValue();
        textHas400Bytes();
        typeOfSomeBytesIsFullOrNot();
        typeIsBadAheadOfFull();
        fullTextStaysAndIsFullUntilEmpty();
        clearTellsHowMany();
        clearChangesTheTextAlone();
        itemsNoneToMany();
        sixTradesAtMost();
        sixPeopleAtMost();
        needsZeroTo99();
        yieldsOneTo9();
        skillsZeroTo9();
        skillsOfWhoAndWhatWasTold();
        skipsOfWhoAndWhatWasTold();
        placesOfTheWheel();
        placesAtFirst();
        wheelHasEachOnce();
        wheelAtFirst();
        wheelNeedsTrades();
        noTradeBehindTheFirstOfFour();
        toldTwiceTheLatestCounts();
        blanksAnyNumber();
        onlyByte32IsABlank();
        blanksNeededInTwoPlacesOnly();
        itemsEndWithAStop();
        itemsHaveAllTheirNumbers();
        wordsAndNumbersStandInTheirPlaces();
        wordsOfLettersAToZ();
        numbersOfFigures();
        numbersTo99WithoutZerosAhead();
        faultIsTheFirst();
        textEndsTooEarly();
        faultAtTheFarthest();
        readTellsAllAndEmpties();
        readAnewIsAsAtFirst();
        readForgetsWhatWasTold();
        c.close();
    }

    // ---- promises 1 to 3

    private static void newObjectHoldsNothing() {
        c.sentence("1: as told; no TRADES, no PEOPLE");
        TradeWheel x = new TradeWheel();
        for (int what = 0; what < 5; what++) c.due("count " + what, x.count(what), 0);
        for (int what = 0; what < 4; what++) c.due("now " + what, x.now(what), 0);
        for (int image = 0; image < 2; image++) c.due("image " + image, x.back(image), STATE);
        int[] tunes = {4, 5, 10};
        for (int what = 0; what < 3; what++) c.due("TUNE " + what, x.tune(what, 1), tunes[what]);
        c.due("trace", x.trace(), 0);
        c.due("trade 0", x.trade(0, 0), BAD);
        c.due("person 0", x.person(0, 0), BAD);
        c.due("place 0", x.wheel(0), BAD);
        c.due("anew", x.anew(), 0);
    }

    private static void newObjectIsItsOwn() {
        c.sentence("1: a new object, though others hold much");
        TradeWheel ahead = new TradeWheel();
        TradeWheel busy = Scenes.busy();
        c.same("made ahead", Whole.of(ahead), Whole.of(new TradeWheel()));
        c.same("the busy one", Whole.of(busy), Whole.of(Scenes.busy()));
    }

    private static void typeTakesOneToEightBytes() {
        c.sentence("2: n (1 .. 8)");
        for (int n : Scenes.outside(1, 8)) c.changesNothing("type n " + n, Scenes::busy, x -> x.type(';', n), BAD);
        for (int n = 1; n <= 8; n++) c.due("type n " + n, new TradeWheel().type(' ', n), n);
    }

    private static void typeTakesTheLowestBytes() {
        c.sentence("2: the lowest n bytes of v, the highest of them first");
        String text = " person;";
        for (int n = 1; n <= 8; n++) {
            TradeWheel x = new TradeWheel();
            if (n < 8) x.type(Checks.asNumber(text.substring(0, 8 - n)), 8 - n);
            long above = n < 8 ? -1L << (8 * n) : 0;
            c.due("type " + n, x.type(above | Checks.asNumber(text.substring(8 - n)), n), 8);
            c.due("read, the last " + n + " of them at once", x.read(), 1);
        }
    }

    private static void typeTakesBytesOfAnyValue() {
        c.sentence("2: bytes of v, of any value");
        for (int b : new int[] {0, 127, 128, 255}) {
            for (int n = 1; n <= 8; n++) {
                TradeWheel x = new TradeWheel();
                Checks.say(x, "person;");
                c.due("type " + n + " of " + b, x.type(Checks.asNumber((char) b + " ".repeat(n - 1)), n), 7 + n);
                c.due("it begins no TOKEN", x.read(), -17);
            }
        }
    }

    private static TradeWheel blanks(int n) {
        TradeWheel x = new TradeWheel();
        Checks.say(x, " ".repeat(n));
        return x;
    }

    private static void textHas400Bytes() {
        c.sentence("2: 400 bytes at most");
        c.due("the 399th", blanks(398).type(' ', 1), 399);
        c.due("the 400th", blanks(399).type(' ', 1), 400);
        c.changesNothing("the 401st", () -> blanks(400), x -> x.type(' ', 1), FULL);
    }

    private static void typeOfSomeBytesIsFullOrNot() {
        c.sentence("2: FULL");
        for (int n = 1; n <= 8; n++) {
            int bytes = n;
            c.due(n + " to 399", blanks(399 - n).type(0x2020202020202020L, n), 399);
            c.due(n + " to 400", blanks(400 - n).type(0x2020202020202020L, n), 400);
            c.changesNothing(n + " to 401", () -> blanks(401 - bytes), x -> x.type(0x2020202020202020L, bytes), FULL);
            c.changesNothing(n + " behind 400", () -> blanks(400), x -> x.type(0x2020202020202020L, bytes), FULL);
        }
    }

    private static void typeIsBadAheadOfFull() {
        c.sentence("2: BAD; FULL");
        for (int n : Scenes.outside(1, 8)) {
            c.changesNothing("type n " + n, () -> blanks(400), x -> x.type(' ', n), BAD);
            c.changesNothing("type n " + n + " at 399", () -> blanks(399), x -> x.type(' ', n), BAD);
        }
    }

    private static void fullTextStaysAndIsFullUntilEmpty() {
        c.sentence("2: FULL, till THE TEXT is empty");
        TradeWheel x = blanks(393);
        Checks.say(x, "person;");
        c.due("FULL", x.type(';', 1), FULL);
        c.due("read what was typed ahead of it", x.read(), 1);
        c.due("room behind read", x.type(';', 1), 1);
        x = blanks(399);
        x.type('?', 1);
        c.due("a FAULT", x.read(), -10 - 399);
        c.due("FULL behind a FAULT", x.type(';', 1), FULL);
        c.due("clear", x.clear(), 400);
        c.due("room behind clear", x.type(0x2020202020202020L, 8), 8);
    }

    private static void clearTellsHowMany() {
        c.sentence("3: how many bytes it had");
        for (int n : new int[] {0, 1, 2, 399, 400}) {
            TradeWheel x = blanks(n);
            c.due("clear " + n, x.clear(), n);
            c.due("bytes then", x.count(4), 0);
            c.due("clear again", x.clear(), 0);
        }
    }

    private static void clearChangesTheTextAlone() {
        c.sentence("3: THE TEXT is empty");
        c.changesNothing("clear of an empty one", () -> Scenes.typed(""), TradeWheel::clear, 0);
        TradeWheel x = Scenes.typed("person;oops");
        x.clear();
        c.same("all but THE TEXT", Whole.of(x), Whole.of(Scenes.typed("")));
    }

    // ---- promise 4: what may stand in a text

    private static TradeWheel reads(String text, int items) {
        TradeWheel x = new TradeWheel();
        Checks.say(x, text);
        c.due("read [" + text + "]", x.read(), items);
        c.due("bytes behind [" + text + "]", x.count(4), 0);
        return x;
    }

    /** A FAULT in a busy object: its place, and that all stays, THE TEXT, too. */
    private static void fault(String text, int at) {
        c.changesNothing("read [" + text + "]", () -> Scenes.typed(text), TradeWheel::read, -10 - at);
        c.due("bytes behind it", bytesBehindRead(text), text.length());
    }

    private static int bytesBehindRead(String text) {
        TradeWheel x = Scenes.typed(text);
        x.read();
        return x.count(4);
    }

    private static void itemsNoneToMany() {
        c.sentence("4: ITEMS (none, too)");
        reads("", 0);
        reads(" ", 0);
        reads(" ".repeat(400), 0);
        reads("person;", 1);
        reads("person;person;", 2);
        // 16 bytes and 64 times 6: as many ITEMS as 400 bytes can tell.
        reads("trade1 1;person;" + "at0 0;".repeat(64), 66);
    }

    private static void sixTradesAtMost() {
        c.sentence("4: TRADES (6 at most)");
        for (int n = 1; n <= 6; n++) c.due("count", reads("trade 0 1;".repeat(n), n).count(0), n);
        c.due("the sixth", reads(SIX_TRADES, 6).wheel(5), 5);
        fault(SIX_TRADES + "trade 0 1;", 60);
        fault(SIX_TRADES + "  trade 0 1;", 62);
        fault(SIX_TRADES + "trade", 60);
        fault(SIX_TRADES + "person;trade 0 1;", 67);
    }

    private static void sixPeopleAtMost() {
        c.sentence("4: PEOPLE (6 at most)");
        for (int n = 1; n <= 6; n++) c.due("count", reads("person;".repeat(n), n).count(1), n);
        fault(SIX_PEOPLE + "person;", 42);
        fault(SIX_PEOPLE + " person", 43);
        fault("trade 0 1;" + SIX_PEOPLE + "wheel 0;person;", 60);
    }

    private static void needsZeroTo99() {
        c.sentence("4: NEED (0 .. 99)");
        for (int need : new int[] {0, 1, 98, 99}) c.due("NEED", reads("trade " + need + " 1;", 1).trade(0, 0), need);
        fault("trade 100 1;", 6);
        fault("trade -1 1;", 6);
    }

    private static void yieldsOneTo9() {
        c.sentence("4: YIELD (1 .. 9)");
        for (int makes : new int[] {1, 2, 8, 9}) c.due("YIELD", reads("trade 1 " + makes + ";", 1).trade(0, 1), makes);
        fault("trade 1 0;", 8);
        fault("trade 1 10;", 8);
        fault("trade 1 99;", 8);
        fault("trade 1 -1;", 8);
    }

    private static void skillsZeroTo9() {
        c.sentence("4: SKILLS of TRADES (0 .. 9; 3 at first)");
        for (int s : new int[] {0, 1, 8, 9}) c.due("SKILL", reads(PAIR + "skill 0 0 " + s + ";", 3).skill(0, 0), s);
        c.due("at first", reads(PAIR, 2).skill(0, 0), 3);
        TradeWheel x = reads(SIX_TRADES + SIX_PEOPLE + "skill 2 4 8;", 13);
        for (int p = 0; p < 6; p++) {
            for (int t = 0; t < 6; t++) c.due("of six and six: " + p + " " + t, x.skill(p, t), p == 2 && t == 4 ? 8 : 3);
        }
        fault(PAIR + "skill 0 0 10;", 27);
        fault(PAIR + "skill 0 0 -1;", 27);
        fault(PAIR + "skill 0 0 99;", 27);
    }

    private static void skillsOfWhoAndWhatWasTold() {
        c.sentence("4: skill P T S (TRADES, PEOPLE that were told)");
        TradeWheel x = reads(TWO + "skill 0 0 1;skill 1 1 8;", 6);
        c.due("the first of both", x.skill(0, 0), 1);
        c.due("the last of both", x.skill(1, 1), 8);
        fault(TWO + "skill 2 0 1;", 40);
        fault(TWO + "skill 0 2 1;", 42);
        fault(TWO + "skill 99 0 1;", 40);
        // Who is told only behind it was not told.
        fault(TWO + "skill 2 0 1;person;", 40);
        reads(TWO + "person;skill 2 0 1;", 6);
        fault("skill 0 0 1;", 6);
        fault("person;skill 0 0 1;", 15);
        fault("trade 1 1;skill 0 0 1;", 16);
    }

    private static void skipsOfWhoAndWhatWasTold() {
        c.sentence("4: skip P T (TRADES, PEOPLE that were told)");
        TradeWheel x = reads(TWO + "skip 0 0;skip 1 1;", 6);
        c.due("the first of both", x.person(0, 4), 1);
        c.due("the last of both", x.person(1, 4), 2);
        c.due("the sixth of both", reads(SIX_TRADES + SIX_PEOPLE + "skip 5 5;", 13).person(5, 4), 32);
        fault(TWO + "skip 2 0;", 39);
        fault(TWO + "skip 0 2;", 41);
        fault(TWO + "skip 2 0;person;", 39);
        fault(SIX_TRADES + SIX_PEOPLE + "skip 6 0;", 107);
        fault(SIX_TRADES + SIX_PEOPLE + "skip 0 6;", 109);
        fault("skip 0 0;", 5);
        fault("person;skip 0 0;", 14);
        fault("trade 1 1;skip 0 0;", 15);
    }

    private static void placesOfTheWheel() {
        c.sentence("4: at P K (a place of THE WHEEL)");
        TradeWheel x = reads(TWO + "at 0 1;at 1 0;", 6);
        c.due("the last place", x.person(0, 0), 1);
        c.due("the first place", x.person(1, 0), 0);
        c.due("the sixth of both", reads(SIX_TRADES + SIX_PEOPLE + "at 0 5;", 13).person(0, 0), 5);
        fault(TWO + "at 0 2;", 39);
        fault(TWO + "at 2 0;", 37);
        fault(TWO + "at 2 0;person;", 37);
        fault(SIX_TRADES + SIX_PEOPLE + "at 0 6;", 107);
        fault("at 0 0;", 3);
        fault("person;at 0 0;", 12);
        fault("trade 1 1;at 0 0;", 13);
    }

    private static void placesAtFirst() {
        c.sentence("4: place p by how many TRADES the whole text tells, left over, at first");
        for (int trades = 1; trades <= 6; trades++) {
            String told = "trade 0 1;".repeat(trades);
            TradeWheel ahead = reads(SIX_PEOPLE + told, 6 + trades);
            TradeWheel behind = reads(told + SIX_PEOPLE, 6 + trades);
            for (int p = 0; p < 6; p++) {
                c.due(p + " by " + trades + ", PEOPLE told first", ahead.person(p, 0), p % trades);
                c.due(p + " by " + trades, behind.person(p, 0), p % trades);
            }
        }
        c.due("of who is told behind at", reads("trade 0 1;trade 0 1;person;at 0 1;person;", 5).person(1, 0), 1);
    }

    private static void wheelHasEachOnce() {
        c.sentence("4: wheel T T .. (all TRADES, each once)");
        String three = "trade 1 1;trade 1 1;trade 1 1;";
        TradeWheel x = reads(three + "wheel 2 0 1;", 4);
        int[] told = {2, 0, 1};
        for (int k = 0; k < 3; k++) c.due("place " + k, x.wheel(k), told[k]);
        x = reads(SIX_TRADES + "wheel 5 4 3 2 1 0;", 7);
        for (int k = 0; k < 6; k++) c.due("of six, place " + k, x.wheel(k), 5 - k);
        reads("trade 1 1;wheel 0;", 2);
        fault(three + "wheel;", 35);
        fault(three + "wheel 2 0;", 39);
        fault(three + "wheel 2 0 1 0;", 42);
        fault(three + "wheel 2 0 3;", 40);
        fault(three + "wheel 2 2 1;", 38);
        fault(three + "wheel 2 0 0;", 40);
        fault(three + "wheel 2 0 2;", 40);
        fault(three + "wheel 32 0 1;", 36);
        fault(SIX_TRADES + "wheel 5 4 3 2 1 6;", 76);
        fault(SIX_TRADES + "wheel 5 4 3 2 1 5;", 76);
        fault("trade 1 1;wheel 1;", 16);
        fault("trade 1 1;wheel 0 0;", 18);
    }

    private static void wheelAtFirst() {
        c.sentence("4: THE WHEEL: 0, 1, 2 .. at first");
        TradeWheel x = reads(SIX_TRADES, 6);
        for (int k = 0; k < 6; k++) c.due("place " + k, x.wheel(k), k);
        c.due("behind the last", x.wheel(6), BAD);
    }

    private static void wheelNeedsTrades() {
        c.sentence("4: wheel without TRADES");
        fault("wheel;", 0);
        fault("wheel 0;", 0);
        fault(" person; wheel 0;", 9);
        fault("wheel", 0);
    }

    private static void noTradeBehindTheFirstOfFour() {
        c.sentence("4: behind the first of skill, skip, at, wheel no TRADE is told");
        for (String item : BEHIND_TRADES) {
            reads("person;trade 1 1;" + item, 3);
            fault(PAIR + item + "trade 1 1;", 17 + item.length());
            fault(PAIR + item + "person; trade 1 1;", 25 + item.length());
            c.due("PEOPLE are", reads(PAIR + item + "person;", 4).count(1), 2);
        }
    }

    private static void toldTwiceTheLatestCounts() {
        c.sentence("4: what is told twice: the latest counts");
        TradeWheel x = reads(TWO + "skill 0 1 9;skill 0 1 0;skill 0 1 5;at 1 1;at 1 0;wheel 1 0;wheel 0 1;skip 0 1;skip 0 1;skip 0 0;", 14);
        c.due("SKILL", x.skill(0, 1), 5);
        c.due("place", x.person(1, 0), 0);
        c.due("THE WHEEL", x.wheel(0), 0);
        c.due("SKIPS", x.person(0, 4), 3);
    }

    // ---- promise 4: TOKENS

    private static void blanksAnyNumber() {
        c.sentence("4: blanks, any number, ahead of, between, behind TOKENS");
        for (int n = 1; n <= 3; n++) {
            String b = " ".repeat(n);
            reads(String.join(b, "", "trade", "1", "2", ";", "person", ";", "skill", "0", "0", "4", ";", "wheel", "0", ";", ""), 4);
        }
        reads(" ".repeat(393) + "person;", 1);
        reads("person;" + " ".repeat(393), 1);
        reads("person" + " ".repeat(393) + ";", 1);
        c.due("NEED", reads("trade " + " ".repeat(300) + "9 2;", 1).trade(0, 0), 9);
    }

    private static void onlyByte32IsABlank() {
        c.sentence("4: blanks (32)");
        for (int sign : new int[] {0, 9, 10, 13, 31, 33, 160, 255}) {
            fault((char) sign + "person;", 0);
            fault("person" + (char) sign + ";", 6);
            fault("person;" + (char) sign, 7);
            fault("trade" + (char) sign + "1 1;", 5);
        }
    }

    private static void blanksNeededInTwoPlacesOnly() {
        c.sentence("4: blanks, needed only between two rows of letters, two NUMBERS");
        TradeWheel x = reads("trade4 5;person;skill0 0 7;skip0 0;at0 0;wheel0;", 6);
        c.due("NEED", x.trade(0, 0), 4);
        c.due("SKILL", x.skill(0, 0), 7);
        fault("personperson;", 0);
        fault("person person;", 7);
        fault("trade 45;", 8);
        fault("trade1 1;wheel00;", 14);
        fault(PAIR + "skill 00 7;", 23);
        fault(PAIR + "at00;", 19);
    }

    private static void itemsEndWithAStop() {
        c.sentence("4: each ended by ;");
        fault(";", 0);
        fault("person;;", 7);
        fault("person", 6);
        fault("trade 1 1", 9);
        fault("trade 1 1 person;", 10);
        fault("trade 1 1 1;", 10);
        fault("person 0;", 7);
        fault(PAIR + "skill 0 0 1 1;", 29);
        fault(PAIR + "skip 0 0 0;", 26);
        fault(PAIR + "at 0 0 0;", 24);
    }

    private static void itemsHaveAllTheirNumbers() {
        c.sentence("4: trade N Y, skill P T S, skip P T, at P K, wheel T T ..");
        fault("trade;", 5);
        fault("trade 1;", 7);
        fault(PAIR + "skill;", 22);
        fault(PAIR + "skill 0;", 24);
        fault(PAIR + "skill 0 0;", 26);
        fault(PAIR + "skip;", 21);
        fault(PAIR + "skip 0;", 23);
        fault(PAIR + "at;", 19);
        fault(PAIR + "at 0;", 21);
        fault(PAIR + "wheel;", 22);
    }

    private static void wordsAndNumbersStandInTheirPlaces() {
        c.sentence("4: TOKENS are words, NUMBERS and ; : the first TOKEN that can't stand there");
        for (String word : new String[] {"trade", "person", "skill", "skip", "at", "wheel", ";"}) {
            fault("trade " + word + " 1;", 6);
            fault("trade 1 " + word + ";", 8);
            for (String item : BEHIND_TRADES) {
                int at = item.indexOf(' ') + 1;
                fault(PAIR + item.substring(0, at) + word + item.substring(at + 1), 17 + at);
                fault(PAIR + item.substring(0, item.length() - 2) + word + ";", 17 + item.length() - 2);
            }
        }
        for (int number = 0; number <= 99; number++) {
            fault(number + ";", 0);
            fault(PAIR + number + " 0 0;", 17);
            fault("person" + number, 6);
            fault("trade 1 1 " + number, 10);
        }
    }

    private static void wordsOfLettersAToZ() {
        c.sentence("4: words of letters a .. z");
        // 96 and 123 stand beside a and z and begin no TOKEN; a and z make the word another one.
        fault("person`;", 6);
        fault("person{;", 6);
        fault("persona;", 0);
        fault("personz;", 0);
        fault("personA;", 6);
        fault("personZ;", 6);
        fault("Person;", 0);
        fault("pERSON;", 0);
        fault("a;", 0);
        fault("z;", 0);
        fault("  perso;", 2);
        fault("persons;", 0);
        fault("item;", 0);
        for (String word : new String[] {"trade", "person", "skill", "skip", "at", "wheel"}) {
            fault(PAIR + word + "s 0;", 17);
            fault(PAIR + word.substring(0, word.length() - 1) + " 0;", 17);
            fault(PAIR + word.substring(1) + " 0;", 17);
            fault(PAIR + "x" + word.substring(1) + " 0;", 17);
            fault(PAIR + word.substring(0, word.length() - 1) + "x 0;", 17);
        }
    }

    private static void numbersOfFigures() {
        c.sentence("4: NUMBERS");
        // 47 and 58 stand beside 0 and 9.
        fault("trade 9/ 1;", 7);
        fault("trade 9: 1;", 7);
        fault("trade / 1;", 6);
        fault("trade : 1;", 6);
        fault("trade +1 1;", 6);
        fault("trade 1.0 1;", 7);
        fault("trade a 1;", 6);
        fault("trade 1 a;", 8);
        fault("1 trade 1;", 0);
        c.due("0 and 9", reads("trade 90 9;", 1).trade(0, 0), 90);
    }

    private static void numbersTo99WithoutZerosAhead() {
        c.sentence("4: a NUMBER above 99 or with a 0 ahead of others");
        for (int need : new int[] {0, 9, 10, 11, 90, 99}) c.due("NEED", reads("trade " + need + " 1;", 1).trade(0, 0), need);
        for (String number : new String[] {"100", "101", "199", "990", "999", "1000", "00", "01", "09", "010", "000", "0000",
            "65536", "4294967296", "4294967297", "18446744073709551617", "340282366920938463463374607431768211457"}) {
            fault("trade " + number + " 1;", 6);
            fault("trade 1 " + number + ";", 8);
        }
        fault(PAIR + "skill 00 0 1;", 23);
        fault(PAIR + "skill 0 00 1;", 25);
        fault(PAIR + "skill 0 0 01;", 27);
        fault(PAIR + "at 0 100;", 22);
        fault(PAIR + "wheel 00;", 23);
        fault(PAIR + "wheel 100;", 23);
        fault("00", 0);
    }

    private static void faultIsTheFirst() {
        c.sentence("4: FAULT: the first");
        fault("person; oops; trade 100 1; ?", 8);
        fault("person; trade 100 1; oops;", 14);
        fault("person; ; oops", 8);
        fault("person 100", 7);
        fault("person ?", 7);
        fault("? oops", 0);
        fault("trade oops 100;", 6);
        fault(SIX_TRADES + "trade 100 0;", 60);
    }

    private static void textEndsTooEarly() {
        c.sentence("4: the text's length, if it ends too early");
        String[] items = {"trade 1 1;", "person;", "skill 0 0 1;", "skip 0 0;", "at 0 0;", "wheel 0;"};
        String ahead = "";
        for (String item : items) {
            int word = item.replaceAll("[^a-z]", "").length();
            for (int cut = 1; cut < item.length(); cut++) {
                // A part of a word is none of these words, and the FAULT then.
                fault(ahead + item.substring(0, cut), ahead.length() + (cut < word ? 0 : cut));
            }
            fault(ahead + item.substring(0, word) + "   ", ahead.length() + word + 3);
            ahead += item;
            reads(ahead, ahead.split(";").length);
        }
    }

    private static void faultAtTheFarthest() {
        c.sentence("4: -10 less FAULT, at the first byte and at the farthest");
        fault(";" + " ".repeat(399), 0);
        fault(" ".repeat(399) + ";", 399);
        fault(" ".repeat(398) + "; ", 398);
        fault(" ".repeat(394) + "person", 400);
        fault(" ".repeat(393) + "person", 399);
        fault("person" + " ".repeat(394), 400);
        fault(";".repeat(400), 0);
        fault("person;" + ";".repeat(393), 7);
        fault(" ".repeat(399) + "a", 399);
        fault("trade " + "9".repeat(394), 6);
        fault("a".repeat(400), 0);
    }

    // ---- promise 4: what is told then

    private static void readTellsAllAndEmpties() {
        c.sentence("4: THE TEXT tells all, and is empty then");
        TradeWheel x = Scenes.busy();
        c.due("how many ITEMS", x.read(), 3);
        c.due("bytes", x.count(4), 0);
        c.due("TRADES", x.count(0), 1);
        c.due("PEOPLE", x.count(1), 1);
        c.due("NEED", x.trade(0, 0), 5);
        c.due("read again: an empty text tells that there is nothing", x.read(), 0);
        c.due("no TRADES", x.count(0), 0);
        c.due("no PEOPLE", x.count(1), 0);
    }

    private static void readAnewIsAsAtFirst() {
        c.sentence("4: Read anew: NOW is as at first, IMAGES are gone; TUNES stay; THE TRACE goes on");
        for (String text : new String[] {"", "person;person;", "trade 7 2;person;", SIX_TRADES + SIX_PEOPLE, "person;trade 8 1;trade 9 1;at 0 1;"}) {
            TradeWheel x = Scenes.typed(text);
            x.read();
            // The other one holds nothing but the same TUNES and TRACE.
            TradeWheel y = Checks.of("person;");
            y.rate(3, 0);
            Checks.say(y, text);
            y.read();
            y.tune(0, 3);
            y.tune(1, 7);
            y.tune(2, 12);
            c.due("THE TRACE", x.trace(), 1101);
            c.same("all else [" + text + "]", Whole.of(x), Whole.of(y));
        }
    }

    private static void readForgetsWhatWasTold() {
        c.sentence("4: THE TEXT tells all");
        StringBuilder much = new StringBuilder(SIX_TRADES.replace("0 1", "9 9") + SIX_PEOPLE + "wheel 5 4 3 2 1 0;");
        for (int p = 0; p < 6; p++) {
            much.append("skill ").append(p).append(' ').append(5 - p).append(" 8;skip ").append(p).append(" 0;at ").append(p).append(" 5;");
        }
        for (String text : new String[] {SIX_TRADES + SIX_PEOPLE, SIX_PEOPLE, SIX_TRADES, ""}) {
            TradeWheel x = Checks.of(much.toString());
            for (int times = 1; times <= 2; times++) {
                Checks.say(x, much.toString());
                c.due("much, again", x.read(), 31);
            }
            Checks.say(x, text);
            x.read();
            c.same("behind much [" + text + "]", Whole.of(x), Whole.of(Checks.of(text)));
            x = Checks.of(much.toString());
            Checks.say(x, text);
            x.read();
            Checks.say(x, text);
            x.read();
            c.same("behind much, twice [" + text + "]", Whole.of(x), Whole.of(Checks.of(text)));
        }
    }
}
