/**
 * The sentences of the document's terms at their boundaries: the least and the greatest that is
 * allowed, what is just beyond, what is empty, full, cut, rounded or wraps around. Each test says
 * by of(..) which sentence it looks at (RulesTest looks these words up in the document).
 */
public final class TermsTest {
    private static final int BAD = -2;
    private static final int OTHER = -3;
    private static final int NOTHING = -4;
    private static final int STUCK = -5;
    private static final int FULL = -6;
    private static final int NONE = LettersLeaping.NONE;

    private static int wrong = 0;
    private static int checked = 0;
    private static String quote = "";

    /** Which sentence is tested from here on; promise 0 stands for the terms. */
    private static void of(int promise, String words) {
        quote = words;
    }

    private static void due(String what, long got, long want) {
        checked++;
        if (got != want) {
            wrong++;
            System.out.println("terms, \"" + quote + "\": " + what + " is " + got + ", due is " + want);
        }
    }

    private static void write(LettersLeaping x, String text) {
        for (int i = 0; i < text.length(); i++) {
            x.feed(text.charAt(i), 1);
        }
    }

    private static int law(LettersLeaping x, String text) {
        write(x, text);
        return x.law();
    }

    /** What a new object answers to a text as its law. */
    private static int lawOf(String text) {
        return law(new LettersLeaping(), text);
    }

    private static LettersLeaping under(String text) {
        LettersLeaping x = new LettersLeaping();
        x.force(law(x, text));
        return x;
    }

    private static void row(LettersLeaping x, int s, int sort, long... values) {
        x.row(s, sort, values.length);
        for (int i = 0; i < values.length; i++) {
            x.set(s, i, values[i]);
        }
    }

    /** A seed whose next draw below 1000 is a told one. */
    private static int seedFor(int draw) {
        for (int seed = 0; seed < 1000000; seed++) {
            if ((seed * 1103515245 + 12345 >>> 16) % 1000 == draw) {
                return seed;
            }
        }
        return 0;
    }

    /** A lake with one jetty at the harbour and one leaper, of a told risk in every hour. */
    private static LettersLeaping risky(int risk) {
        int byWind = Math.min(99, risk / 9);
        int byWet = Math.min(99, risk - 9 * byWind);
        int byHeight = risk - 9 * byWind - byWet;
        LettersLeaping x = under("high 1;skill 0;wind " + byWind + ";wet " + byWet);
        x.jetty(3, 0, 1, 20 + byHeight);
        x.wet(0, true);
        x.leaper(0);
        for (int hour = 0; hour < 12; hour++) {
            x.wind(hour, 9);
        }
        x.row(0, 0, 20);
        return x;
    }

    public static void main(String[] args) {
        shelves();
        sortsAndSizes();
        bytesAndShorts();
        intsAndLongs();
        booleans();
        jettyNumbers();
        kinds();
        spots();
        lengthsAndHeights();
        risesOfJettiesAndRocks();
        risesOfPiersAndStairs();
        risesOfRaftsAndFloats();
        paces();
        outAboveAndBelow();
        outOfEveryKind();
        decks();
        levels();
        lawNumbers();
        tapeSizes();
        tokens();
        blanks();
        statements();
        lawBounds();
        digits();
        laterCounts();
        faultsOfWords();
        faultsOfNumbers();
        faultsOfSigns();
        faultsOfBytes();
        firstFaultCounts();
        endsTooEarly();
        oneLawInForce();
        hoursAndWinds();
        leaperNumbers();
        timeRoundedUp();
        timeCut();
        timeNoMoreThan();
        riskAtLeast();
        riskAtMost();
        riskOfOut();
        riskWithoutTime();
        riskBothWays();
        riskOfWetAndWind();
        harbours();
        legsRoundedUp();
        hoursOfMinutes();
        lastHour();
        nextMinute();
        endsWithoutAny();
        bestOfNone();
        bestOfSix();
        bestByItsEnd();
        bestOfSeveral();
        teamOfNone();
        teamOfSix();
        teamByLoads();
        teamOfSeveral();
        learnt();
        bags();
        bagsWithoutLetters();
        fullBags();
        parcelNumbers();
        stopsAtTheirEdges();
        stopsOfSeveral();
        weeksBelow();
        draws();
        drawsWrap();
        missesAndDrops();
        missesTurn();
        asAtBegin();
        asAtEachStep();
        stepsInTheirHours();
        refusalCounts();
        firstThatFits();
        risesBelowZero();
        System.out.println(wrong == 0 ? checked + " answers at boundaries are as due" : wrong + " are not as due");
        if (wrong != 0) {
            System.exit(1);
        }
    }

    // ---- 1: shelves and jetties ----

    private static void shelves() {
        of(0, "SHELVES 0 to 7 hold NOTHING (at first), a ROW, or a JETTY.");
        LettersLeaping x = new LettersLeaping();
        x.jetty(0, 0, 1, 0);
        for (int s = 0; s <= 7; s++) {
            due("shelf " + s + " at first", x.holds(s), NONE);
            due("shelf " + s + " gets a row", x.row(s, 3, 40), 1);
            due("shelf " + s + " with a row", x.holds(s), 3);
            x.set(s, 0, 5);
            x.set(s, 39, 6);
            due("shelf " + s + " gets a jetty", x.show(s, 0), 1);
            due("shelf " + s + " with a jetty", x.holds(s), 10);
            due("the row is gone", x.element(s, 0), 0);
            due("the row is gone", x.element(s, 39), 0);
            due("the shelves that hold something", x.status(6), s + 1);
        }
        due("shelf -1", x.row(-1, 0, 1), BAD);
        due("shelf 8", x.row(8, 0, 1), BAD);
        for (int s = 0; s <= 7; s++) {
            due("shelf " + s + " gets nothing", x.show(s, NONE), 1);
            due("shelf " + s + " with nothing", x.holds(s), NONE);
            due("the shelves that hold something", x.status(6), 7 - s);
        }
    }

    private static void sortsAndSizes() {
        of(0, "A ROW has a SORT (0 bytes, 1 shorts, 2 ints, 3 longs, 4 booleans) and 0 to 40 elements (0, or not so, at first)");
        for (int sort = 0; sort <= 4; sort++) {
            LettersLeaping x = new LettersLeaping();
            due("40 elements", x.row(0, sort, 40), 1);
            for (int i = 0; i < 40; i++) {
                due("element " + i + " at first", x.element(0, i), 0);
                due("element " + i + " is there", x.set(0, i, 1), 1);
                due("element " + i + " then", x.element(0, i), 1);
            }
            due("no element 40", x.set(0, 40, 1), BAD);
            due("40 anew", x.row(0, sort, 40), 1);
            for (int i = 0; i < 40; i++) {
                due("element " + i + " anew", x.element(0, i), 0);
            }
            due("no elements", x.row(0, sort, 0), 1);
            due("a row yet", x.holds(0), sort);
            due("no element 0", x.set(0, 0, 1), BAD);
            due("-1 elements", x.row(0, sort, -1), BAD);
            due("41 elements", x.row(0, sort, 41), BAD);
        }
        LettersLeaping x = new LettersLeaping();
        due("sort -1", x.row(0, -1, 1), BAD);
        due("sort 5", x.row(0, 5, 1), BAD);
    }

    private static void keeps(int sort, long[][] putAndTold) {
        LettersLeaping x = new LettersLeaping();
        x.row(0, sort, 1);
        for (long[] pair : putAndTold) {
            due("set of " + pair[0] + " in sort " + sort, x.set(0, 0, pair[0]), 1);
            due(pair[0] + " in sort " + sort, x.element(0, 0), pair[1]);
        }
    }

    private static void bytesAndShorts() {
        of(0, "what is put in keeps its lowest bits (with their sign;");
        keeps(0, new long[][] {{127, 127}, {128, -128}, {-128, -128}, {-129, 127}, {255, -1}, {256, 0}, {257, 1}, {-1, -1},
            {-256, 0}, {1L << 40, 0}, {Long.MAX_VALUE, -1}, {Long.MIN_VALUE, 0}});
        keeps(1, new long[][] {{32767, 32767}, {32768, -32768}, {-32768, -32768}, {-32769, 32767}, {65535, -1}, {65536, 0},
            {65537, 1}, {128, 128}, {-1, -1}, {1L << 40, 0}, {Long.MAX_VALUE, -1}, {Long.MIN_VALUE, 0}});
    }

    private static void intsAndLongs() {
        of(0, "what is put in keeps its lowest bits (with their sign;");
        keeps(2, new long[][] {{2147483647L, 2147483647L}, {2147483648L, -2147483648L}, {-2147483648L, -2147483648L},
            {-2147483649L, 2147483647L}, {4294967295L, -1}, {4294967296L, 0}, {4294967297L, 1}, {32768, 32768}, {-1, -1},
            {Long.MAX_VALUE, -1}, {Long.MIN_VALUE, 0}});
        keeps(3, new long[][] {{Long.MAX_VALUE, Long.MAX_VALUE}, {Long.MIN_VALUE, Long.MIN_VALUE}, {2147483648L, 2147483648L},
            {4294967296L, 4294967296L}, {-1, -1}, {0, 0}});
    }

    private static void booleans() {
        of(0, "of booleans: whether it is not 0); told they are numbers (1, 0).");
        keeps(4, new long[][] {{1, 1}, {0, 0}, {2, 1}, {0, 0}, {-1, 1}, {0, 0}, {256, 1}, {0, 0}, {4294967296L, 1},
            {0, 0}, {Long.MIN_VALUE, 1}, {0, 0}, {Long.MAX_VALUE, 1}});
    }

    private static void jettyNumbers() {
        of(0, "JETTIES have numbers, 0 on, 20 at most, each of a KIND");
        LettersLeaping x = new LettersLeaping();
        for (int i = 0; i < 20; i++) {
            due("jetty " + i, x.jetty(i % 6, i, 1 + i, 2 * i), i);
            due("status(0)", x.status(0), i + 1);
        }
        due("the jetty after the twentieth", x.jetty(0, 0, 1, 0), FULL);
        due("status(0)", x.status(0), 20);
        for (int i = 0; i < 20; i++) {
            due("kind of jetty " + i, x.jettyOf(i, 0), i % 6);
            due("spot of jetty " + i, x.jettyOf(i, 1), i);
            due("length of jetty " + i, x.jettyOf(i, 2), 1 + i);
            due("height of jetty " + i, x.jettyOf(i, 3), 2 * i);
        }
        due("no jetty 20", x.jettyOf(20, 0), BAD);
    }

    private static void kinds() {
        of(0, "KIND: 0 JETTY; 1 PIER, under JETTY; 2 STAIR, under PIER; 3 RAFT, under JETTY; 4 FLOAT, under RAFT; 5 ROCK, under JETTY");
        LettersLeaping x = new LettersLeaping();
        due("kind -1", x.jetty(-1, 0, 1, 0), BAD);
        due("kind 6", x.jetty(6, 0, 1, 0), BAD);
        String[] under = {"0", "01", "012", "03", "034", "05"};
        for (int kind = 0; kind < 6; kind++) {
            due("kind " + kind, x.jetty(kind, 9, 1, 0), kind);
            due("told", x.jettyOf(kind, 0), kind);
            x.show(0, kind);
            for (int as = 0; as < 6; as++) {
                boolean mayBe = under[kind].indexOf('0' + as) >= 0;
                due("kind " + kind + " taken for " + as, x.says(0, as) == OTHER ? 0 : 1, mayBe ? 1 : 0);
            }
        }
    }

    private static void spots() {
        of(0, "at a SPOT (0 to 255: row SPOT / 16, column SPOT modulo 16)");
        LettersLeaping x = under("leg 1;speed 1");
        due("spot 0", x.jetty(0, 0, 1, 0), 0);
        due("spot 255", x.jetty(0, 255, 1, 0), 1);
        due("spot -1", x.jetty(0, -1, 1, 0), BAD);
        due("spot 256", x.jetty(0, 256, 1, 0), BAD);
        due("0 told", x.jettyOf(0, 1), 0);
        due("255 told", x.jettyOf(1, 1), 255);
        int[][] far = {{0, 15, 15}, {0, 16, 1}, {15, 16, 16}, {0, 240, 15}, {0, 255, 30}, {240, 15, 30}, {15, 31, 1},
            {239, 240, 16}, {255, 254, 1}, {255, 239, 1}, {17, 34, 2}, {34, 17, 2}, {18, 33, 2}, {255, 255, 0}, {0, 0, 0}};
        for (int[] leg : far) {
            due("from " + leg[0] + " to " + leg[1], x.leg(leg[0], leg[1]), leg[2]);
        }
    }

    private static void lengthsAndHeights() {
        of(0, "with a LENGTH (1 to 30 paces), a HEIGHT (0 to 99); WET or not (at first not).");
        LettersLeaping x = new LettersLeaping();
        due("length 0", x.jetty(0, 0, 0, 0), BAD);
        due("length 31", x.jetty(0, 0, 31, 0), BAD);
        due("height -1", x.jetty(0, 0, 1, -1), BAD);
        due("height 100", x.jetty(0, 0, 1, 100), BAD);
        for (int kind = 0; kind < 6; kind++) {
            int low = x.jetty(kind, 0, 1, 0);
            int high = x.jetty(kind, 0, 30, 99);
            due("the least length", x.jettyOf(low, 2), 1);
            due("the least height", x.jettyOf(low, 3), 0);
            due("the greatest length", x.jettyOf(high, 2), 30);
            due("the greatest height", x.jettyOf(high, 3), 99);
            due("dry at first", x.jettyOf(low, 5), 0);
            due("dry at first", x.wet(high, true), 0);
        }
    }

    private static void rises(int kind, int[][] heightLevelRise) {
        for (int[] one : heightLevelRise) {
            LettersLeaping x = new LettersLeaping();
            x.jetty(kind, 0, 1, one[0]);
            due("kind " + kind + ", height " + one[0] + " at level " + one[1], x.rise(0, one[1]), one[2]);
        }
    }

    private static void risesOfJettiesAndRocks() {
        of(0, "JETTY, ROCK: HEIGHT less LEVEL");
        int[][] want = {{0, -50, 50}, {0, 0, 0}, {0, 1, -1}, {0, 50, -50}, {99, -50, 149}, {99, 0, 99}, {99, 50, 49}};
        rises(0, want);
        rises(5, want);
    }

    private static void risesOfPiersAndStairs() {
        of(0, "PIER: that less 10; STAIR: as PIER, 0 at least");
        rises(1, new int[][] {{0, -50, 40}, {0, 0, -10}, {10, 0, 0}, {9, 0, -1}, {0, 50, -60}, {99, -50, 139}, {99, 50, 39}});
        rises(2, new int[][] {{0, -50, 40}, {0, 0, 0}, {10, 0, 0}, {9, 0, 0}, {11, 0, 1}, {0, -10, 0}, {0, -11, 1}, {0, -9, 0},
            {0, 50, 0}, {60, 50, 0}, {61, 50, 1}, {99, -50, 139}, {99, 50, 39}});
    }

    private static void risesOfRaftsAndFloats() {
        of(0, "RAFT: HEIGHT; FLOAT: half of that, cut.");
        for (int level : new int[] {-50, 0, 50}) {
            rises(3, new int[][] {{0, level, 0}, {1, level, 1}, {99, level, 99}});
            rises(4, new int[][] {{0, level, 0}, {1, level, 0}, {2, level, 1}, {3, level, 1}, {98, level, 49}, {99, level, 49}});
        }
    }

    private static void paces() {
        of(0, "PACES: JETTY, RAFT: LENGTH; PIER: twice LENGTH; STAIR: as PIER, and 4; FLOAT: as RAFT, and 2; ROCK: 1.");
        int[] shortest = {1, 2, 6, 1, 3, 1};
        int[] longest = {30, 60, 64, 30, 32, 1};
        LettersLeaping x = new LettersLeaping();
        for (int kind = 0; kind < 6; kind++) {
            due("length 1 of kind " + kind, x.jettyOf(x.jetty(kind, 0, 1, 0), 4), shortest[kind]);
            due("length 30 of kind " + kind, x.jettyOf(x.jetty(kind, 0, 30, 0), 4), longest[kind]);
        }
    }

    private static void outAboveAndBelow() {
        of(0, "OUT at a LEVEL: RISE less DECK is above 60 or below -60.");
        LettersLeaping x = new LettersLeaping();
        x.jetty(0, 0, 1, 80);
        x.jetty(0, 0, 1, 81);
        x.jetty(0, 0, 1, 10);
        x.jetty(0, 0, 1, 9);
        due("60 above", x.jettyOf(0, 6), 0);
        due("61 above", x.jettyOf(1, 6), 1);
        x.lake(0, 50);
        due("60 below", x.jettyOf(2, 6), 0);
        due("61 below", x.jettyOf(3, 6), 1);
        due("no more above", x.jettyOf(1, 6), 0);
    }

    private static void outOfEveryKind() {
        of(0, "OUT at a LEVEL: RISE less DECK is above 60 or below -60.");
        // the height just not out above, and just not out below; NONE where none is out
        int[] highest = {80, 90, 90, 80, NONE, 80};
        int[] lowest = {10, 20, NONE, NONE, NONE, 10};
        for (int kind = 0; kind < 6; kind++) {
            for (int height = 0; height <= 99; height++) {
                LettersLeaping x = new LettersLeaping();
                x.jetty(kind, 0, 1, height);
                boolean above = highest[kind] != NONE && height > highest[kind];
                due("kind " + kind + ", height " + height, x.jettyOf(0, 6), above ? 1 : 0);
                x.lake(0, 50);
                // a raft is as high as ever, the others are lower by 50
                boolean below = kind == 3 ? height > 80 : lowest[kind] != NONE && height < lowest[kind];
                due("kind " + kind + ", height " + height + " at level 50", x.jettyOf(0, 6), below ? 1 : 0);
            }
        }
    }

    private static void decks() {
        of(0, "DECK: 20 less a quarter (cut) of GUESTS (0 to 60; 0 at first).");
        LettersLeaping x = under("high 1;skill 0");
        x.jetty(3, 0, 1, 30);
        x.leaper(0);
        due("at first", x.status(7), 0);
        due("risk with a deck of 20", x.risk(0, 0, 0), 10);
        int[][] guestsAndRisk = {{0, 10}, {1, 10}, {3, 10}, {4, 11}, {7, 11}, {8, 12}, {55, 23}, {56, 24}, {59, 24}, {60, 25}};
        for (int[] pair : guestsAndRisk) {
            x.lake(1, pair[0]);
            due(pair[0] + " guests", x.risk(0, 0, 0), pair[1]);
        }
        due("-1 guests", x.lake(1, -1), BAD);
        due("61 guests", x.lake(1, 61), BAD);
        due("60 guests stay", x.status(7), 60);
        // a deck of 5: 65 and -55 are not out, 66 and -56 are
        LettersLeaping y = new LettersLeaping();
        y.lake(1, 60);
        y.jetty(3, 0, 1, 65);
        y.jetty(3, 0, 1, 66);
        y.jetty(1, 0, 1, 5);
        y.jetty(1, 0, 1, 4);
        y.lake(0, 50);
        due("60 above the lower deck", y.jettyOf(0, 6), 0);
        due("61 above the lower deck", y.jettyOf(1, 6), 1);
        due("60 below the lower deck", y.jettyOf(2, 6), 0);
        due("61 below the lower deck", y.jettyOf(3, 6), 1);
    }

    private static void levels() {
        of(0, "RISE of a JETTY at a LEVEL (-50 to 50; the lake's, 0 at first)");
        LettersLeaping x = under("high 1;skill 0");
        x.jetty(0, 0, 1, 20);
        x.leaper(0);
        due("0 at first", x.lake(0, 0), 0);
        due("level -51", x.lake(0, -51), BAD);
        due("level 51", x.lake(0, 51), BAD);
        due("0 yet", x.risk(0, 0, 0), 0);
        due("level -50", x.lake(0, -50), 1);
        due("50 higher", x.risk(0, 0, 0), 50);
        due("level 50", x.lake(0, 50), 1);
        due("50 lower", x.risk(0, 0, 0), 50);
        due("a rise at level -51", x.rise(0, -51), -1002);
        due("a rise at level 51", x.rise(0, 51), -1002);
    }

    // ---- 2: laws and leaps ----

    private static void lawNumbers() {
        of(0, "LAWS, 6 at most, are read from THE TAPE");
        LettersLeaping x = new LettersLeaping();
        for (int i = 0; i < 6; i++) {
            due("law " + i, law(x, "leg " + (i + 1)), i);
            due("status(1)", x.status(1), i + 1);
        }
        due("the law after the sixth", law(x, "leg 7"), FULL);
        due("status(1)", x.status(1), 6);
        for (int i = 0; i < 6; i++) {
            due("law " + i + " stays", x.lawOf(i, 8), i + 1);
        }
        due("no law 6", x.lawOf(6, 8), BAD);
        due("no law 6", x.force(6), BAD);
    }

    private static void tapeSizes() {
        of(0, "THE TAPE (bytes, 160 at most)");
        LettersLeaping x = new LettersLeaping();
        for (int i = 1; i <= 160; i++) {
            due("byte " + i, x.feed(i <= 155 ? ' ' : "leg 9".charAt(i - 156), 1), i);
        }
        due("byte 161", x.feed(' ', 1), FULL);
        due("160 are a law", x.law(), 0);
        due("read to the last byte", x.lawOf(0, 8), 9);
        due("empty then", x.feed(' ', 4), 4);
        for (int i = 2; i <= 40; i++) {
            due("four at once", x.feed(0x20202020, 4), 4 * i);
        }
        due("four more", x.feed(0x20202020, 4), FULL);
        due("one more", x.feed(0x20202020, 1), FULL);
        due("160 stay", x.wipe(), 160);
        due("room again", x.feed(0, 1), 1);
    }

    private static void tokens() {
        of(0, "TOKENS, each as long as can be: WORDS (a .. z), NUMBERS (digits), the SIGN ;");
        due("no blank between", lawOf("leg9"), 0);
        due("no blanks at all", lawOf("leg9;box1;wet99"), 0);
        due("two digits are one number", lawOf("leg12"), -23);
        due("two digits are one number", lawOf("boat12"), 0);
        due("two words are one", lawOf("legleg 1"), -20);
        due("a word is longer than its beginning", lawOf("legs 1"), -20);
        due("a word is longer than its beginning", lawOf("boxer 1"), -20);
        due("a word is shorter", lawOf("le 1"), -20);
        due("a word follows a number", lawOf("leg9box1"), -24);
        due("z is a letter", lawOf("zeg 1"), -20);
        due("z is a letter", lawOf("leg 1;legz 1"), -26);
        due("a is a letter", lawOf("leg 1;lega 1"), -26);
        due("9 and 0 are digits", lawOf("box 90"), 0);
        due("0 and 9 are digits", lawOf("box 09"), 0);
    }

    private static void blanks() {
        of(0, "blanks (32) may stand anywhere between.");
        due("everywhere", lawOf("   leg   9   ;   box   1   "), 0);
        due("ahead", lawOf(" leg 9"), 0);
        due("behind", lawOf("leg 9 "), 0);
        due("ahead of the sign", lawOf("leg 9 ;box 1"), 0);
        due("behind the sign", lawOf("leg 9; box 1"), 0);
        due("in a word", lawOf("le g 9"), -20);
        due("in a number", lawOf("box 1 2"), -26);
        due("byte 31", lawOf("leg" + (char) 31 + "9"), -23);
        due("byte 33", lawOf("leg" + (char) 33 + "9"), -23);
        due("byte 9", lawOf("leg" + (char) 9 + "9"), -23);
        due("byte 10", lawOf("leg 9" + (char) 10), -25);
        due("byte 0", lawOf((char) 0 + "leg 9"), -20);
        due("byte 160", lawOf("leg" + (char) 160 + "9"), -23);
    }

    private static void statements() {
        of(0, "STATEMENTS, one or more, with ; between");
        due("none", lawOf(""), -20);
        due("none", lawOf("  "), -22);
        due("one", lawOf("leg 1"), 0);
        due("two", lawOf("leg 1;leg 1"), 0);
        StringBuilder many = new StringBuilder("leg1");
        for (int i = 1; i < 32; i++) {
            many.append(";leg").append(1 + i % 9);
        }
        LettersLeaping x = new LettersLeaping();
        due("32, 159 bytes", law(x, many.toString()), 0);
        due("the last of them", x.lawOf(0, 8), 5);
        due("none between", lawOf("leg 1 leg 1"), -26);
        due("ahead", lawOf(";leg 1"), -20);
        due("behind", lawOf("leg 1;"), -26);
        due("two between", lawOf("leg 1;;leg 1"), -26);
        due("alone", lawOf(";"), -20);
    }

    private static final String[] WORDS = {"boat", "speed", "pace", "box", "high", "wet", "wind", "skill", "leg"};
    private static final int[] LEAST = {1, 1, 1, 0, 0, 0, 0, 0, 1};
    private static final int[] MOST = {99, 9, 9, 99, 9, 99, 99, 9, 9};
    private static final int[] FIRST = {40, 4, 5, 3, 3, 40, 20, 4, 2};

    private static void lawBounds() {
        String[] told = {"boat N (1 to 99: how long; 40 at first)", "speed N (1 to 9; 4)", "pace N (1 to 9; 5)",
            "box N (0 to 99; 3)", "high N (0 to 9; 3)", "wet N, wind N (0 to 99 each; 40, 20)",
            "wet N, wind N (0 to 99 each; 40, 20)", "skill N (0 to 9; 4)", "leg N (1 to 9; 2)"};
        of(0, "boat N (1 to 99: how long; 40 at first), speed N (1 to 9; 4), pace N (1 to 9; 5), box N (0 to 99; 3), "
                + "high N (0 to 9; 3), wet N, wind N (0 to 99 each; 40, 20), skill N (0 to 9; 4), leg N (1 to 9; 2).");
        for (int what = 0; what < 9; what++) {
            String word = WORDS[what] + " ";
            int fault = -20 - word.length();
            for (int v = 0; v <= 100; v++) {
                LettersLeaping x = new LettersLeaping();
                boolean mayBe = v >= LEAST[what] && v <= MOST[what];
                due(told[what] + ": " + word + v, law(x, word + v), mayBe ? 0 : fault);
                if (mayBe) {
                    due(told[what] + ": " + word + v, x.lawOf(0, what), v);
                }
            }
            LettersLeaping x = new LettersLeaping();
            law(x, WORDS[(what + 1) % 9] + " 1");
            due(told[what] + ": at first", x.lawOf(0, what), FIRST[what]);
        }
    }

    private static void digits() {
        of(0, "also a NUMBER that may not be, or has more than 2 digits");
        LettersLeaping x = new LettersLeaping();
        due("01", law(x, "leg 01"), 0);
        due("01 told", x.lawOf(0, 8), 1);
        due("00 where 0 may be", law(x, "box 00"), 1);
        due("00 told", x.lawOf(1, 3), 0);
        due("00 where it may not", law(x, "leg 00"), -24);
        due("001", law(x, "leg 001"), -24);
        due("000", law(x, "box 000"), -24);
        due("099", law(x, "box 099"), -24);
        due("100", law(x, "box 100"), -24);
        due("256 and 1", law(x, "box 257"), -24);
        due("2 to the 32nd and 1", law(x, "box 4294967297"), -24);
        due("more digits than any number has", law(x, "box 1" + "0".repeat(60)), -24);
        due("two laws", x.status(1), 2);
    }

    private static void laterCounts() {
        of(0, "What is told later counts.");
        LettersLeaping x = new LettersLeaping();
        law(x, "leg 9;leg 1;box 0;leg 3;box 99");
        due("leg", x.lawOf(0, 8), 3);
        due("box", x.lawOf(0, 3), 99);
        law(x, "leg 5;leg 2");
        due("as at first, told later", x.lawOf(1, 8), 2);
        due("nothing of the law ahead", x.lawOf(1, 3), 3);
        due("a fault ahead of the later one", law(x, "leg 0;leg 1"), -24);
        due("a fault behind others", law(x, "boat 99;speed 9;box 99;speed 0"), -49);
        due("the law after it", law(x, "wet 1"), 2);
        due("has nothing of the faulty one", x.lawOf(2, 0) + x.lawOf(2, 1) + x.lawOf(2, 3), 40 + 4 + 3);
    }

    private static void faultsOfWords() {
        of(0, "The FAULT: the place of the first byte of the first TOKEN that can't stand there");
        due("no such word, first", lawOf("lake 1"), -20);
        due("no such word behind blanks", lawOf("   lake 1"), -23);
        due("no such word, second", lawOf("leg 1;lake 1"), -26);
        due("no such word behind blanks, second", lawOf("leg 1;  lake 1"), -28);
        due("a word where a number is due", lawOf("leg leg"), -24);
        due("a word where a sign is due", lawOf("leg 1 leg"), -26);
        due("a word at a number's end", lawOf("leg 1leg"), -25);
        for (String word : WORDS) {
            due(word, lawOf(word + " 1"), 0);
            due(word + " with a letter more", lawOf(word + "x 1"), -20);
            due(word + " with a letter ahead", lawOf("x" + word + " 1"), -20);
            due(word + " with a letter less", lawOf(word.substring(1) + " 1"), -20);
            due(word + " with a letter less", lawOf(word.substring(0, word.length() - 1) + " 1"), -20);
            due(word + " in great letters", lawOf(word.toUpperCase() + " 1"), -20);
            due(word + " with another last letter", lawOf(word.substring(0, word.length() - 1) + "q 1"), -20);
        }
    }

    private static void faultsOfNumbers() {
        of(0, "The FAULT: the place of the first byte of the first TOKEN that can't stand there");
        due("a number where a word is due", lawOf("1"), -20);
        due("a number behind blanks where a word is due", lawOf("  12"), -22);
        due("a number behind a sign", lawOf("leg 1;2"), -26);
        due("a number where a sign is due", lawOf("leg 1 2"), -26);
        due("a number that may not be, behind blanks", lawOf("leg    10"), -27);
        due("a number that may not be, without a blank", lawOf("leg0"), -23);
        due("a number that may not be, second", lawOf("leg 1;speed 0"), -32);
    }

    private static void faultsOfSigns() {
        of(0, "The FAULT: the place of the first byte of the first TOKEN that can't stand there");
        due("a sign where a word is due", lawOf("  ;"), -22);
        due("a sign where a number is due", lawOf("leg;"), -23);
        due("a sign where a number is due, behind blanks", lawOf("leg  ;1"), -25);
        due("a sign behind a sign", lawOf("leg 1; ;"), -27);
    }

    private static void faultsOfBytes() {
        of(0, "a byte that begins none)");
        int[] bytes = {0, 9, 31, 33, 47, 58, 60, 64, 65, 90, 96, 123, 127, 128, 169, 187, 224, 255};
        for (int b : bytes) {
            char c = (char) b;
            due("byte " + b + " first", lawOf(c + "leg 1"), -20);
            due("byte " + b + " in a word", lawOf("le" + c + "g 1"), -20);
            due("byte " + b + " behind a word", lawOf("leg" + c + " 1"), -23);
            due("byte " + b + " where a number is due", lawOf("leg " + c), -24);
            due("byte " + b + " behind a number", lawOf("leg 1" + c), -25);
            due("byte " + b + " where a sign is due", lawOf("leg 1 " + c), -26);
            due("byte " + b + " behind a sign", lawOf("leg 1;" + c), -26);
        }
    }

    private static void firstFaultCounts() {
        of(0, "the first TOKEN that can't stand there");
        due("two words", lawOf("lake 1;sea 1"), -20);
        due("a number, then a byte", lawOf("leg 0;#"), -24);
        due("a word, then a byte", lawOf("leg leg#"), -24);
        due("a sign, then an early end", lawOf("leg 1;;"), -26);
        due("a number, then an early end", lawOf("box 100;"), -24);
    }

    private static void endsTooEarly() {
        of(0, "THE TAPE's size, if it ends too early.");
        due("empty", lawOf(""), -20);
        due("one blank", lawOf(" "), -21);
        due("behind a word", lawOf("leg"), -23);
        due("behind a word and blanks", lawOf("leg   "), -26);
        due("behind a sign", lawOf("leg 1;"), -26);
        due("behind a sign and blanks", lawOf("leg 1;   "), -29);
        due("behind a second word", lawOf("leg 1;box"), -29);
        due("160 blanks", lawOf(" ".repeat(160)), -180);
        due("160 bytes, the last a word's", lawOf(" ".repeat(157) + "leg"), -180);
        due("160 bytes, the last a sign", lawOf(" ".repeat(154) + "leg 1;"), -180);
        due("160 bytes, the last a fault", lawOf(" ".repeat(154) + "leg 1#"), -179);
        due("160 bytes, the last a number that may not be", lawOf(" ".repeat(155) + "leg 0"), -179);
        due("160 bytes of one word", lawOf("a".repeat(160)), -20);
        due("160 digits", lawOf("leg" + "1".repeat(157)), -23);
        due("160 signs", lawOf(";".repeat(160)), -20);
    }

    private static void oneLawInForce() {
        of(0, "One LAW may be in force (none: as at first).");
        LettersLeaping x = new LettersLeaping();
        x.jetty(0, 0, 17, 21);
        x.leaper(0);
        x.wet(0, true);
        x.wind(0, 1);
        due("leg 2 and speed 4", x.leg(0, 255), 15);
        due("boat 40, pace 5, box 3", x.jettyOf(0, 7), 1);
        due("high 3, wet 40, wind 20", x.risk(0, 0, 0), 63);
        x.learn(0);
        due("skill 4: none left", x.risk(0, 0, 0), 0);
        law(x, "boat 39;leg 1");
        due("read, but not in force", x.leg(0, 255), 15);
        due("read, but not in force", x.jettyOf(0, 7), 1);
        law(x, "pace 4;leg 3");
        x.force(0);
        due("the first: leg 1", x.leg(0, 255), 8);
        due("the first: boat 39", x.jettyOf(0, 7), 0);
        x.force(1);
        due("the second alone: leg 3", x.leg(0, 255), 23);
        due("the second alone: pace 4", x.jettyOf(0, 7), 0);
        x.force(NONE);
        due("as at first again", x.leg(0, 255), 15);
        due("as at first again", x.jettyOf(0, 7), 1);
    }

    private static void hoursAndWinds() {
        of(0, "HOURS are 0 to 11, each with a WIND (0 to 9; 0 at first).");
        LettersLeaping x = new LettersLeaping();
        x.jetty(3, 0, 1, 20);
        x.leaper(0);
        for (int hour = 0; hour <= 11; hour++) {
            due("no wind in hour " + hour, x.risk(0, 0, hour), 0);
            due("wind 9 in hour " + hour, x.wind(hour, 9), 0);
            due("9 times 20 in hour " + hour, x.risk(0, 0, hour), 180);
            due("wind 0 in hour " + hour, x.wind(hour, 0), 9);
            due("no wind in hour " + hour, x.wind(hour, hour % 10), 0);
        }
        for (int hour = 0; hour <= 11; hour++) {
            due("each its own", x.risk(0, 0, hour), 20 * (hour % 10));
        }
        due("hour -1", x.wind(-1, 0), BAD);
        due("hour 12", x.wind(12, 0), BAD);
        due("wind -1", x.wind(0, -1), BAD);
        due("wind 10", x.wind(0, 10), BAD);
        due("hour -1", x.risk(0, 0, -1), BAD);
        due("hour 12", x.risk(0, 0, 12), BAD);
    }

    private static void leaperNumbers() {
        of(0, "LEAPERS 0 on, 6 at most, each with a SKILL (0 to 99), LEAPS tried and DROPS (both 0 at first).");
        LettersLeaping x = new LettersLeaping();
        int[] skills = {0, 99, 1, 98, 50, 0};
        due("skill -1", x.leaper(-1), BAD);
        due("skill 100", x.leaper(100), BAD);
        for (int i = 0; i < 6; i++) {
            due("leaper " + i, x.leaper(skills[i]), i);
            due("status(2)", x.status(2), i + 1);
        }
        due("the leaper after the sixth", x.leaper(0), FULL);
        for (int i = 0; i < 6; i++) {
            due("skill of " + i, x.leaperOf(i, 0), skills[i]);
            due("leaps of " + i, x.leaperOf(i, 1), 0);
            due("drops of " + i, x.leaperOf(i, 2), 0);
        }
        due("no leaper 6", x.leaperOf(6, 0), BAD);
    }

    private static int time(String text, int kind, int length) {
        LettersLeaping x = under(text);
        x.jetty(kind, 0, length, 20);
        return x.jettyOf(0, 7);
    }

    private static void timeRoundedUp() {
        of(0, "THERE IS TIME at a JETTY: twice its PACES by pace, rounded up, and box are no more than boat by speed, cut.");
        due("6 by 3 are 2", time("pace 3;box 0;boat 2;speed 1", 0, 3), 1);
        due("8 by 3 are 3", time("pace 3;box 0;boat 2;speed 1", 0, 4), 0);
        due("8 by 3 are 3", time("pace 3;box 0;boat 3;speed 1", 0, 4), 1);
        due("10 by 3 are 4", time("pace 3;box 0;boat 3;speed 1", 0, 5), 0);
        due("10 by 3 are 4", time("pace 3;box 0;boat 4;speed 1", 0, 5), 1);
        due("2 by 9 are 1", time("pace 9;box 0;boat 1;speed 1", 5, 30), 1);
        due("2 by 1 are 2", time("pace 1;box 0;boat 1;speed 1", 5, 30), 0);
        due("128 by 1 are too many", time("pace 1;box 0;boat 99;speed 1", 2, 30), 0);
        due("128 by 2 are 64", time("pace 2;box 0;boat 64;speed 1", 2, 30), 1);
        due("128 by 2 are 64", time("pace 2;box 0;boat 63;speed 1", 2, 30), 0);
        due("rounded before the box is added", time("pace 4;box 1;boat 3;speed 1", 0, 3), 1);
        due("rounded before the box is added", time("pace 4;box 2;boat 3;speed 1", 0, 3), 0);
    }

    private static void timeCut() {
        of(0, "no more than boat by speed, cut.");
        due("5 by 2 are 2", time("pace 1;box 0;boat 5;speed 2", 5, 1), 1);
        due("4 by 2 are 2", time("pace 1;box 0;boat 4;speed 2", 5, 1), 1);
        due("3 by 2 are 1", time("pace 1;box 0;boat 3;speed 2", 5, 1), 0);
        due("18 by 9 are 2", time("pace 1;box 0;boat 18;speed 9", 5, 1), 1);
        due("17 by 9 are 1", time("pace 1;box 0;boat 17;speed 9", 5, 1), 0);
        due("1 by 9 is none", time("pace 9;box 0;boat 1;speed 9", 5, 1), 0);
        due("9 by 9 is 1", time("pace 9;box 0;boat 9;speed 9", 5, 1), 1);
        due("8 by 9 is none", time("pace 9;box 0;boat 8;speed 9", 5, 1), 0);
    }

    private static void timeNoMoreThan() {
        of(0, "and box are no more than boat by speed");
        due("1 and 98 of 99", time("pace 9;box 98;boat 99;speed 1", 5, 1), 1);
        due("1 and 99 of 99", time("pace 9;box 99;boat 99;speed 1", 5, 1), 0);
        due("1 and 0 of 1", time("pace 9;box 0;boat 1;speed 1", 5, 1), 1);
        due("1 and 1 of 1", time("pace 9;box 1;boat 1;speed 1", 5, 1), 0);
    }

    private static void riskAtLeast() {
        of(0, "less skill times SKILL; 0 at least, 1000 at most");
        LettersLeaping x = under("high 1;skill 9");
        x.leaper(1);
        x.leaper(99);
        int[] heights = {28, 29, 30};
        int[] want = {0, 0, 1};
        for (int i = 0; i < 3; i++) {
            x.jetty(3, 0, 1, heights[i]);
            due(heights[i] - 20 + " less 9", x.risk(0, i, 0), want[i]);
            due("far less than 0", x.risk(1, i, 0), 0);
        }
        x.jetty(3, 0, 1, 20);
        due("0 less 9", x.risk(0, 3, 0), 0);
    }

    private static void riskAtMost() {
        of(0, "less skill times SKILL; 0 at least, 1000 at most");
        int[] heights = {29, 30, 31, 80};
        int[] want = {999, 1000, 1000, 1000};
        for (int i = 0; i < 4; i++) {
            LettersLeaping x = under("high 1;wet 99;wind 99;skill 9");
            x.jetty(3, 0, 1, heights[i]);
            x.wet(0, true);
            x.wind(0, 9);
            x.leaper(0);
            x.leaper(1);
            due("990 and " + (heights[i] - 20), x.risk(0, 0, 0), want[i]);
            due("9 less of what it was ahead", x.risk(1, 0, 0), Math.min(1000, 990 + heights[i] - 20 - 9));
        }
        LettersLeaping x = under("high 9;wet 99;wind 99;skill 9");
        x.jetty(3, 0, 1, 80);
        x.wet(0, true);
        x.wind(0, 9);
        x.leaper(99);
        due("1530 less 891", x.risk(0, 0, 0), 639);
    }

    private static void riskOfOut() {
        of(0, "1000 also if it is OUT");
        LettersLeaping x = under("high 0;wet 0;wind 0;skill 9");
        x.leaper(99);
        x.jetty(3, 0, 1, 80);
        x.jetty(3, 0, 1, 81);
        due("not out", x.risk(0, 0, 0), 0);
        due("out", x.risk(0, 1, 0), 1000);
        x.jetty(1, 0, 1, 20);
        x.jetty(1, 0, 1, 19);
        x.lake(0, 50);
        due("not out below", x.risk(0, 2, 0), 0);
        due("out below", x.risk(0, 3, 0), 1000);
    }

    private static void riskWithoutTime() {
        of(0, "or there is no TIME.");
        LettersLeaping x = under("high 0;wet 0;wind 0;skill 9;pace 1;box 0;boat 60;speed 1");
        x.leaper(99);
        x.jetty(0, 0, 30, 20);
        x.jetty(4, 0, 28, 40);
        x.jetty(4, 0, 29, 40);
        due("60 of 60", x.risk(0, 0, 0), 0);
        due("60 of 60", x.risk(0, 1, 0), 0);
        due("62 of 60", x.risk(0, 2, 0), 1000);
    }

    private static void riskBothWays() {
        of(0, "RISK of a LEAPER at a JETTY in an HOUR (thousandths): high times how far RISE is from DECK");
        LettersLeaping x = under("high 9;skill 0");
        x.leaper(0);
        int[][] heightAndRisk = {{0, 180}, {19, 9}, {20, 0}, {21, 9}, {80, 540}};
        for (int i = 0; i < heightAndRisk.length; i++) {
            x.jetty(3, 0, 1, heightAndRisk[i][0]);
            due("height " + heightAndRisk[i][0], x.risk(0, i, 0), heightAndRisk[i][1]);
        }
        x.jetty(1, 0, 1, 20);
        x.lake(0, 50);
        due("40 below 0", x.risk(0, 5, 0), 540);
    }

    private static void riskOfWetAndWind() {
        of(0, "and wet if it is WET, and wind times the HOUR's WIND");
        int[] numbers = {0, 1, 99};
        for (int wet : numbers) {
            for (int wind : numbers) {
                LettersLeaping x = under("high 0;skill 0;wet " + wet + ";wind " + wind);
                x.jetty(3, 0, 1, 20);
                x.leaper(99);
                x.wind(11, 9);
                due("dry and calm", x.risk(0, 0, 0), 0);
                due("dry, wind 9", x.risk(0, 0, 11), 9 * wind);
                x.wet(0, true);
                due("wet and calm", x.risk(0, 0, 0), wet);
                due("wet, wind 9", x.risk(0, 0, 11), wet + 9 * wind);
            }
        }
    }

    // ---- 3: rounds ----

    private static void harbours() {
        of(0, "The boat begins at the HARBOUR (a SPOT, 0 at first) and leaves it in minute 0.");
        LettersLeaping x = under("leg 1;speed 1");
        x.jetty(0, 0, 1, 20);
        x.jetty(0, 255, 1, 20);
        x.leaper(0);
        row(x, 0, 0, 0);
        row(x, 1, 0, 1);
        due("0 at first", x.status(8), 0);
        due("at the harbour in minute 0", x.round(0, 0, 1, 1), 0);
        due("the farthest", x.round(0, 1, 1, 1), 30);
        due("harbour 255", x.lake(2, 255), 1);
        due("status(8)", x.status(8), 255);
        due("the farthest", x.round(0, 0, 1, 1), 30);
        due("at the harbour in minute 0", x.round(0, 1, 1, 1), 0);
        due("harbour -1", x.lake(2, -1), BAD);
        due("harbour 256", x.lake(2, 256), BAD);
        due("it stays", x.status(8), 255);
        due("harbour 0", x.lake(2, 0), 1);
    }

    private static void legsRoundedUp() {
        of(0, "FAR of two SPOTS: rows and columns between them, together; a LEG takes leg minutes times FAR, by speed, rounded up.");
        LettersLeaping x = under("leg 3;speed 4");
        int[] want = {0, 1, 2, 3, 3, 4, 5, 6, 6};
        for (int far = 0; far < want.length; far++) {
            due("3 times " + far + " by 4", x.leg(0, far), want[far]);
        }
        due("1 by 9", under("leg 1;speed 9").leg(0, 1), 1);
        due("9 by 9", under("leg 9;speed 9").leg(0, 1), 1);
        due("10 by 9", under("leg 1;speed 9").leg(0, 10), 2);
        due("none by 9", under("leg 9;speed 9").leg(200, 200), 0);
        due("the longest", under("leg 9;speed 1").leg(0, 255), 270);
        due("30 by 9", under("leg 1;speed 9").leg(0, 255), 4);
    }

    private static void hoursOfMinutes() {
        of(0, "A ROUND is a row of JETTIES: at each the leap is in the HOUR of the minute in which the boat comes there by 60 (11 at most)");
        LettersLeaping x = under("leg 2;speed 1;wind 1");
        x.jetty(3, 254, 1, 20);
        x.leaper(0);
        x.wind(0, 1);
        x.wind(1, 3);
        row(x, 0, 0, 0, 0, 0);
        due("minute 58", x.round(0, 0, 1, 1), 58);
        due("minute 58 is of hour 0", x.round(0, 0, 1, 0), 1);
        due("minute 59", x.round(0, 0, 2, 1), 59);
        due("minute 59 is of hour 0", x.round(0, 0, 2, 0), 1 + 1);
        due("minute 60", x.round(0, 0, 3, 1), 60);
        due("minute 60 is of hour 1", x.round(0, 0, 3, 0), 1 + 1 + 3);
    }

    private static void lastHour() {
        of(0, "A ROUND is a row of JETTIES: at each the leap is in the HOUR of the minute in which the boat comes there by 60 (11 at most)");
        LettersLeaping x = under("leg 9;speed 1;wind 1");
        x.jetty(3, 255, 1, 20);
        x.jetty(3, 0, 1, 20);
        x.jetty(3, 13, 1, 20);
        x.jetty(3, 19, 1, 20);
        x.leaper(0);
        x.wind(10, 1);
        x.wind(11, 4);
        // minutes 270, 541, 659, 660
        row(x, 0, 0, 0, 1, 2, 2);
        due("minute 659", x.round(0, 0, 3, 1), 659);
        due("minute 659 is of hour 10", x.round(0, 0, 3, 0), 1);
        due("minute 660", x.round(0, 0, 4, 1), 660);
        due("minute 660 is of hour 11", x.round(0, 0, 4, 0), 1 + 4);
        // minutes 270, 541, 659, 777, 895
        row(x, 0, 0, 0, 1, 2, 1, 2);
        due("minute 777", x.round(0, 0, 4, 1), 777);
        due("minute 777 is of hour 11", x.round(0, 0, 4, 0), 1 + 4);
        due("minute 895 is of hour 11", x.round(0, 0, 5, 0), 1 + 4 + 4);
        // minutes 270, 541, 659, 759 (13 to 19: a row on, 10 columns back), then one a minute
        row(x, 1, 0, 0, 1, 2, 3, 3, 3, 3);
        due("minute 759", x.round(0, 1, 4, 1), 660 + 99);
        due("hour 11 for the rest", x.round(0, 1, 7, 0), 1 + 4 * 4);
        row(x, 2, 0, 0, 1, 0, 1, 0, 1, 0, 1, 0, 1, 0, 1, 0, 1, 0, 1, 0, 1, 0, 1);
        due("the longest round", x.round(0, 2, 20, 1), 20 * 270 + 19);
        due("hour 11 for all but two", x.round(0, 2, 20, 0), 18 * 4);
    }

    private static void nextMinute() {
        of(0, "then the boat goes on in the next minute.");
        LettersLeaping x = under("leg 1;speed 1");
        x.jetty(0, 5, 1, 20);
        x.jetty(0, 9, 1, 20);
        x.leaper(0);
        row(x, 0, 0, 0, 1, 1, 0);
        int[] ends = {0, 5, 10, 11, 16};
        for (int n = 0; n <= 4; n++) {
            due("the end of " + n, x.round(0, 0, n, 1), ends[n]);
        }
        x.row(1, 0, 20);
        due("twenty times the same", x.round(0, 1, 20, 1), 5 + 19);
    }

    private static void endsWithoutAny() {
        of(0, "ITS RISK: the sum of RISKS; ITS END: the minute in which it comes to the last one (0 without any).");
        LettersLeaping x = new LettersLeaping();
        x.leaper(0);
        x.row(0, 0, 0);
        x.row(1, 0, 20);
        due("the end of a row of 0", x.round(0, 0, 0, 1), 0);
        due("the risk of a row of 0", x.round(0, 0, 0, 0), 0);
        due("the end of none of 20", x.round(0, 1, 0, 1), 0);
        due("the risk of none of 20", x.round(0, 1, 0, 0), 0);
        due("the jetties of none", x.round(0, 1, 0, 2), 0);
    }

    private static void bestOfNone() {
        of(0, "BEST of a set of JETTIES (bits; 6 at most; none, too) by a LEAPER and an end (0 to 999)");
        LettersLeaping x = new LettersLeaping();
        x.leaper(0);
        due("the risk of none by 0", x.best(0, 0, 0, 0), 0);
        due("the end of none by 0", x.best(0, 0, 0, 1), 0);
        due("the risk of none by 999", x.best(0, 0, 999, 0), 0);
        due("the first of none", x.best(0, 0, 999, 10), BAD);
        due("an end of -1", x.best(0, 0, -1, 0), BAD);
        due("an end of 1000", x.best(0, 0, 1000, 0), BAD);
    }

    private static void bestOfSix() {
        of(0, "BEST of a set of JETTIES (bits; 6 at most; none, too)");
        LettersLeaping x = under("leg 1;speed 1");
        int[] spots = {6, 2, 4, 1, 5, 3, 7};
        for (int spot : spots) {
            x.jetty(3, spot, 1, 20);
        }
        x.leaper(0);
        int[] order = {3, 1, 5, 2, 4, 0};
        for (int i = 0; i < 6; i++) {
            due("place " + i + " of six", x.best(0, 63, 999, 10 + i), order[i]);
        }
        due("place 6 of six", x.best(0, 63, 999, 16), BAD);
        due("the end of six", x.best(0, 63, 999, 1), 6 + 5);
        due("six with the last one", x.best(0, 126, 999, 1), 7 + 5);
        due("its last place", x.best(0, 126, 999, 15), 6);
        due("seven", x.best(0, 127, 999, 0), BAD);
        due("one more than there are", x.best(0, 128, 999, 0), BAD);
        LettersLeaping y = new LettersLeaping();
        for (int i = 0; i < 20; i++) {
            y.jetty(3, i, 1, 20);
        }
        y.leaper(0);
        due("the last of twenty", y.best(0, 1 << 19, 999, 10), 19);
        due("one more than twenty", y.best(0, 1 << 20, 999, 10), BAD);
    }

    private static void bestByItsEnd() {
        of(0, "of all orders that end by then that of least RISK");
        LettersLeaping x = under("leg 9;speed 1;wind 1;wet 0");
        x.jetty(3, 10, 1, 20);
        x.jetty(3, 20, 1, 20);
        x.leaper(0);
        x.wind(0, 9);
        x.wind(1, 5);
        // 0 then 1: minutes 90, 90 + 1 + 9 * 7 = 154; 1 then 0: 45, 109
        due("least risk by 999", x.best(0, 3, 999, 0), 5 + 0);
        due("its end", x.best(0, 3, 999, 1), 154);
        due("its first", x.best(0, 3, 999, 10), 0);
        due("just by then", x.best(0, 3, 154, 0), 5 + 0);
        due("a minute earlier another one", x.best(0, 3, 153, 0), 9 + 5);
        due("its end", x.best(0, 3, 153, 1), 109);
        due("its first", x.best(0, 3, 153, 10), 1);
        due("just by then", x.best(0, 3, 109, 0), 9 + 5);
        due("a minute earlier none", x.best(0, 3, 108, 0), STUCK);
        due("a minute earlier none", x.best(0, 3, 108, 1), STUCK);
        due("one alone, just by then", x.best(0, 1, 90, 1), 90);
        due("one alone, a minute earlier", x.best(0, 1, 89, 1), STUCK);
        x.lake(2, 10);
        due("at the harbour by 0", x.best(0, 1, 0, 1), 0);
        due("both by 64", x.best(0, 3, 64, 1), 64);
        due("both by 63", x.best(0, 3, 63, 1), STUCK);
    }

    private static void bestOfSeveral() {
        of(0, "of several of the least END, then the first by its JETTIES' numbers.");
        LettersLeaping x = under("leg 1;speed 1");
        x.jetty(3, 9, 1, 20);
        x.jetty(3, 4, 1, 20);
        x.jetty(3, 4, 1, 20);
        x.jetty(3, 9, 1, 20);
        x.leaper(0);
        due("of one risk the least end", x.best(0, 3, 999, 1), 10);
        due("its first", x.best(0, 3, 999, 10), 1);
        int[] order = {1, 2, 0, 3};
        for (int i = 0; i < 4; i++) {
            due("of one end the first by numbers, place " + i, x.best(0, 15, 999, 10 + i), order[i]);
        }
        // both ways round take as long, as the harbour lies between
        LettersLeaping y = under("leg 1;speed 1");
        y.jetty(3, 4, 1, 20);
        y.jetty(3, 0, 1, 20);
        y.leaper(0);
        y.lake(2, 2);
        due("both ways alike", y.best(0, 3, 999, 1), 2 + 1 + 4);
        due("the first by numbers", y.best(0, 3, 999, 10), 0);
        due("then the other", y.best(0, 3, 999, 11), 1);
    }

    private static void teamOfNone() {
        of(0, "TEAM: to each JETTY of a set (6 at most; none, too) one LEAPER");
        LettersLeaping x = new LettersLeaping();
        due("none, without leapers", x.team(0, 1, 0, NONE), 0);
        due("no jetty of none", x.team(0, 1, 0, 0), BAD);
        x.jetty(3, 0, 1, 30);
        due("one, without leapers", x.team(1, 6, 0, NONE), STUCK);
        x.leaper(0);
        due("none, with one", x.team(0, 1, 11, NONE), 0);
        due("one, with one", x.team(1, 1, 11, NONE), 30);
        due("her", x.team(1, 1, 11, 0), 0);
    }

    private static void teamOfSix() {
        of(0, "TEAM: to each JETTY of a set (6 at most; none, too) one LEAPER");
        LettersLeaping x = under("high 1;skill 1");
        for (int i = 0; i < 7; i++) {
            x.jetty(3, 0, 1, 70);
        }
        for (int i = 0; i < 6; i++) {
            x.leaper(i);
        }
        due("six, one each", x.team(63, 1, 0, NONE), 6 * 50 - 15);
        due("six, two each", x.team(63, 2, 0, NONE), 6 * 50 - 24);
        due("six, all to the best", x.team(63, 6, 0, NONE), 6 * 45);
        due("the best", x.team(63, 6, 0, 0), 5);
        due("five and one", x.team(63, 5, 0, NONE), 5 * 45 + 46);
        due("the one less good goes first", x.team(63, 5, 0, 0), 4);
        due("then the best", x.team(63, 5, 0, 5), 5);
        due("with the last one", x.team(126, 6, 0, 6), 5);
        due("seven", x.team(127, 6, 0, NONE), BAD);
    }

    private static void teamByLoads() {
        of(0, "no LEAPER to more than m (1 to 6), in one told HOUR");
        LettersLeaping x = under("high 1;skill 1;wind 9");
        for (int i = 0; i < 6; i++) {
            x.jetty(3, 0, 1, 70);
        }
        x.leaper(0);
        x.leaper(9);
        x.wind(11, 1);
        due("m 0", x.team(3, 0, 0, NONE), BAD);
        due("m 7", x.team(3, 7, 0, NONE), BAD);
        due("m 1 for two", x.team(3, 1, 0, NONE), 50 + 41);
        due("m 1 for three", x.team(7, 1, 0, NONE), STUCK);
        due("m 2 for three", x.team(7, 2, 0, NONE), 50 + 2 * 41);
        due("m 2 for four", x.team(15, 2, 0, NONE), 2 * 50 + 2 * 41);
        due("m 2 for five", x.team(31, 2, 0, NONE), STUCK);
        due("m 6 for six", x.team(63, 6, 0, NONE), 6 * 41);
        due("hour 11", x.team(63, 6, 11, NONE), 6 * 50);
        due("hour 12", x.team(63, 6, 12, NONE), BAD);
        due("hour -1", x.team(63, 6, -1, NONE), BAD);
    }

    private static void teamOfSeveral() {
        of(0, "the least sum of RISKS, of several the first by the least JETTY's LEAPER, then the next one's.");
        LettersLeaping x = under("high 1;skill 1");
        for (int i = 0; i < 3; i++) {
            x.jetty(3, 0, 1, 70);
        }
        for (int i = 0; i < 3; i++) {
            x.leaper(7);
        }
        int[] one = {0, 1, 2};
        int[] two = {0, 0, 1};
        for (int i = 0; i < 3; i++) {
            due("one each, jetty " + i, x.team(7, 1, 0, i), one[i]);
            due("two each, jetty " + i, x.team(7, 2, 0, i), two[i]);
            due("three each, jetty " + i, x.team(7, 3, 0, i), 0);
        }
        due("the last jetty alone", x.team(4, 1, 0, 2), 0);
        teamByOneThousandth();
    }

    private static void teamByOneThousandth() {
        of(0, "the least sum of RISKS, of several the first by the least JETTY's LEAPER, then the next one's.");
        LettersLeaping x = under("high 1;skill 1");
        for (int i = 0; i < 3; i++) {
            x.jetty(3, 0, 1, 70);
        }
        x.leaper(5);
        x.leaper(6);
        due("one less by the second", x.team(1, 1, 0, NONE), 44);
        due("her", x.team(1, 1, 0, 0), 1);
        due("three by the second", x.team(7, 3, 0, NONE), 3 * 44);
        due("after these, two by the second", x.team(3, 2, 0, NONE), 2 * 44);
        due("after these, one by the second", x.team(1, 2, 0, NONE), 44);
        due("her", x.team(1, 2, 0, 0), 1);
        due("after these, none", x.team(0, 2, 0, NONE), 0);
    }

    private static void learnt() {
        of(0, "LEARNT of a LEAPER: 100 times (LEAPS less DROPS) and 50, by LEAPS and 1, cut, 99 at most.");
        int[][] leapsDropsWant = {{1, 0, 75}, {1, 1, 25}, {2, 0, 83}, {2, 1, 50}, {2, 2, 16}, {48, 48, 1}, {49, 49, 1}, {50, 50, 0},
            {49, 0, 99}, {48, 0, 98}, {98, 0, 99}, {99, 0, 99}, {99, 99, 0}, {99, 1, 98}};
        for (int[] one : leapsDropsWant) {
            LettersLeaping x = new LettersLeaping();
            x.leaper(7);
            due("none tried", x.learnt(0), 50);
            x.tried(0, one[0], one[1]);
            due(one[0] + " leaps, " + one[1] + " drops", x.learnt(0), one[2]);
        }
        LettersLeaping x = new LettersLeaping();
        x.leaper(0);
        for (int i = 1; i <= 100; i++) {
            due("99 more", x.tried(0, 99, 0), 99 * i);
        }
        due("99 at most", x.learnt(0), 99);
    }

    private static LettersLeaping bag(int[] letters, int[] round) {
        LettersLeaping x = new LettersLeaping();
        for (int i = 0; i < 4; i++) {
            x.jetty(0, 0, 1, 0);
        }
        x.row(0, 0, letters.length);
        for (int i = 0; i < letters.length; i++) {
            x.set(0, i, letters[i]);
        }
        x.row(1, 0, round.length);
        for (int i = 0; i < round.length; i++) {
            x.set(1, i, round[i]);
        }
        return x;
    }

    private static int lifts(int[] letters, int[] round) {
        return bag(letters, round).lifts(0, letters.length, 1, round.length);
    }

    private static void bags() {
        of(0, "all that lies above the lowest of them is lifted (each other one counts 1 LIFT) and comes back as it lay.");
        due("on top", lifts(new int[] {1, 2, 0}, new int[] {0}), 0);
        due("at the bottom", lifts(new int[] {0, 1, 2}, new int[] {0}), 2);
        due("its own above count none", lifts(new int[] {0, 1, 0, 2, 0}, new int[] {0}), 2);
        due("all its own", lifts(new int[] {0, 0, 0}, new int[] {0}), 0);
        due("what is taken is gone", lifts(new int[] {0, 1, 2}, new int[] {2, 0}), 1);
        due("what is left comes back as it lay", lifts(new int[] {0, 1, 2, 3}, new int[] {0, 1, 2, 3}), 3 + 2 + 1);
        due("from the top", lifts(new int[] {0, 1, 2, 3}, new int[] {3, 2, 1, 0}), 0);
        due("back as it lay", lifts(new int[] {0, 1, 2, 1, 3}, new int[] {0, 3, 2}), 4 + 0 + 1);
    }

    private static void bagsWithoutLetters() {
        of(0, "On a ROUND, at each JETTY its letters are taken");
        due("an empty bag", lifts(new int[] {}, new int[] {0, 1}), 0);
        due("no round", lifts(new int[] {0, 1}, new int[] {}), 0);
        due("neither", lifts(new int[] {}, new int[] {}), 0);
        due("no letter for it", lifts(new int[] {0, 1}, new int[] {2}), 0);
        due("none left for the second time", lifts(new int[] {0, 1}, new int[] {0, 0}), 1);
        due("none left at all", lifts(new int[] {0}, new int[] {0, 1, 2, 0}), 0);
    }

    private static void fullBags() {
        of(0, "A BAG: letters lie in it from the bottom up as a ROW tells their JETTIES.");
        int[] letters = new int[40];
        letters[39] = 1;
        due("40 letters, one on top", lifts(letters, new int[] {1}), 0);
        due("40 letters, 39 below", lifts(letters, new int[] {0}), 1);
        letters[39] = 0;
        letters[0] = 1;
        due("40 letters, one at the bottom", lifts(letters, new int[] {1}), 39);
        due("40 letters, 39 above", lifts(letters, new int[] {0}), 0);
        due("40 letters, none for it", lifts(letters, new int[] {2}), 0);
        due("40 letters, all for it", lifts(new int[40], new int[] {0, 0}), 0);
        LettersLeaping x = bag(letters, new int[20]);
        x.set(1, 19, 1);
        due("20 jetties, the last alone lifts none", x.lifts(0, 40, 1, 20), 0);
        x.set(1, 0, 1);
        due("20 jetties, the first lifts 39", x.lifts(0, 40, 1, 20), 39);
        due("the lower 39", x.lifts(0, 39, 1, 20), 38);
    }

    private static void parcelNumbers() {
        of(0, "PARCELS 0 on, 10 at most: a JETTY, minutes (1 to 60) that a stop for it takes (each its own), a WORTH (1 to 99).");
        LettersLeaping x = new LettersLeaping();
        x.jetty(0, 0, 1, 0);
        due("minutes 0", x.parcel(0, 0, 1), BAD);
        due("minutes 61", x.parcel(0, 61, 1), BAD);
        due("worth 0", x.parcel(0, 1, 0), BAD);
        due("worth 100", x.parcel(0, 1, 100), BAD);
        due("jetty 1", x.parcel(1, 1, 1), BAD);
        due("jetty -1", x.parcel(-1, 1, 1), BAD);
        for (int i = 0; i < 10; i++) {
            due("parcel " + i, x.parcel(0, i == 0 ? 1 : 60, i == 9 ? 99 : 1), i);
            due("status(3)", x.status(3), i + 1);
        }
        due("the parcel after the tenth", x.parcel(0, 1, 1), FULL);
        due("the least minutes", x.stops(1), 1);
        due("the greatest worth", x.stops(60), 512);
        due("each its own stop at one jetty", x.stops(61), 513);
        due("all ten", x.stops(541), 1023);
        due("all but one", x.stops(540), 1023 - 256);
    }

    private static void stopsAtTheirEdges() {
        of(0, "STOPS: of PARCELS that set of the greatest WORTH that takes no more than told minutes");
        LettersLeaping x = new LettersLeaping();
        due("no parcels, 0 minutes", x.stops(0), 0);
        due("no parcels, 600 minutes", x.stops(600), 0);
        due("-1 minutes", x.stops(-1), BAD);
        due("601 minutes", x.stops(601), BAD);
        x.jetty(0, 0, 1, 0);
        x.parcel(0, 1, 1);
        due("0 minutes", x.stops(0), 0);
        due("1 minute", x.stops(1), 1);
        LettersLeaping y = new LettersLeaping();
        y.jetty(0, 0, 1, 0);
        for (int i = 0; i < 10; i++) {
            y.parcel(0, 60, 99);
        }
        due("all in 600", y.stops(600), 1023);
        due("nine in 599", y.stops(599), 511);
        due("one in 60", y.stops(60), 1);
        due("none in 59", y.stops(59), 0);
    }

    private static void stopsOfSeveral() {
        of(0, "of several the least as bits.");
        LettersLeaping x = new LettersLeaping();
        x.jetty(0, 0, 1, 0);
        x.parcel(0, 10, 5);
        x.parcel(0, 10, 5);
        x.parcel(0, 20, 10);
        due("the first of two", x.stops(10), 1);
        due("two of five, not one of ten", x.stops(20), 3);
        due("with the first", x.stops(30), 5);
        due("all", x.stops(40), 7);
        LettersLeaping y = new LettersLeaping();
        y.jetty(0, 0, 1, 0);
        y.parcel(0, 20, 10);
        y.parcel(0, 10, 5);
        y.parcel(0, 10, 5);
        due("one of ten, not two of five", y.stops(20), 1);
    }

    private static void weeksBelow() {
        of(0, "WEEKS: the LEVEL falls by told centimetres a week (also below -50).");
        LettersLeaping x = new LettersLeaping();
        x.jetty(0, 0, 1, 0);
        x.jetty(2, 0, 1, 0);
        x.lake(0, -50);
        // out at -81 and, less 10, at -91
        due("30 lower are not enough", x.week(0, 15), 3);
        due("20 lower are not enough", x.outs(1, 20), 0);
        due("40 lower are, but for the stair", x.outs(2, 20), 1);
        due("a stair 41 lower", x.week(1, 20), 3);
        due("20 a week, 20 weeks", x.outs(20, 20), 3);
        due("1 a week, 20 weeks", x.outs(20, 1), 0);
        due("the level itself stays", x.lake(0, -50), 0);
        LettersLeaping y = new LettersLeaping();
        y.jetty(0, 0, 1, 0);
        y.lake(0, 50);
        due("61 below at first, then never again", y.outs(0, 1) * 10 + y.outs(20, 1), 10);
        due("and out again, far lower", y.outs(7, 20), 1);
        due("just not", y.outs(13, 10), 0);
        due("just", y.outs(14, 10), 1);
    }

    private static void draws() {
        of(0, "A DRAW below n: SEED (1 at first) becomes SEED times 1103515245, and 12345 (an int, wrapping)");
        // the first draws of seed 1 are 838, 526 and 113, as its upper bits are 16838, 38526 and 10113
        int[] seeds = {1103527590, -1770082073, 662824084};
        int[] draws = {838, 526, 113};
        for (int i = 0; i < 3; i++) {
            for (int above = 0; above <= 1; above++) {
                LettersLeaping x = risky(draws[i] + above);
                due("the risk", x.risk(0, 0, 0), draws[i] + above);
                due("seed at first", x.status(5), 1);
                x.begin(0, 0, 3);
                for (int k = 0; k < i; k++) {
                    x.step();
                    due("seed " + k, x.status(5), seeds[k]);
                }
                due("draw " + draws[i] + " against " + (draws[i] + above), x.step(), above);
                due("seed " + i, x.status(5), seeds[i]);
            }
        }
    }

    private static void drawsWrap() {
        of(0, "its upper 16 bits, no sign, modulo n.");
        int[] seeds = {0, -1, Integer.MAX_VALUE, Integer.MIN_VALUE, 2, 3, 12345, -12345};
        for (int seed : seeds) {
            long wide = seed * 1103515245L + 12345L;
            int next = (int) wide;
            int draw = (int) ((wide & 0xFFFFFFFFL) / 65536 % 1000);
            for (int above = 0; above <= 1; above++) {
                LettersLeaping x = risky(draw + above);
                x.begin(0, 0, 1);
                x.seed(seed);
                due("draw " + draw + " of seed " + seed, x.step(), above == 0 ? 0 : draw < (draw + above) / 10 ? 2 : 1);
                due("then", x.status(5), next);
            }
        }
    }

    private static void missesAndDrops() {
        of(0, "a DRAW below 1000; below RISK / 10 (cut): a MISS");
        leapsByDraws(true);
        of(0, "else below RISK: a DROP; else the letters are in the box. LEAPS is 1 more each time, DROPS with a MISS or a DROP.");
        leapsByDraws(false);
    }

    /** Draws at the edges of risks, either those of a miss or those of a drop. */
    private static void leapsByDraws(boolean ofMisses) {
        int[] risks = {0, 1, 9, 10, 11, 19, 20, 21, 100, 990, 999, 1000};
        for (int risk : risks) {
            int edge = ofMisses ? risk / 10 : risk;
            int[] drawn = {0, 1, edge - 2, edge - 1, edge, edge + 1, 999};
            for (int draw : drawn) {
                if (draw < 0 || draw > 999) {
                    continue;
                }
                LettersLeaping x = risky(risk);
                x.begin(0, 0, 1);
                x.seed(seedFor(draw));
                int want = draw < risk / 10 ? 2 : draw < risk ? 1 : 0;
                due("draw " + draw + " at risk " + risk, x.step(), want);
                due("leaps", x.leaperOf(0, 1), 1);
                due("drops", x.leaperOf(0, 2), want == 0 ? 0 : 1);
                due("drops that were no misses", x.under(3), want == 1 ? 1 : 0);
                due("misses", x.under(4), want == 2 ? 1 : 0);
            }
        }
    }

    private static void missesTurn() {
        of(0, "a MISS: she falls in, the boat turns: it goes on speed times 3 minutes later than else");
        for (int speed = 1; speed <= 9; speed++) {
            LettersLeaping x = under("leg 9;boat 99;speed " + speed);
            x.jetty(3, 0, 1, 80);
            x.leaper(0);
            x.row(0, 0, 3);
            x.begin(0, 0, 3);
            due("it leaves in minute 0", x.under(2), 0);
            x.seed(seedFor(0));
            due("a miss", x.step(), 2);
            due("goes on after a miss", x.under(2), 1 + 3 * speed);
            x.seed(seedFor(100));
            due("a drop", x.step(), 1);
            due("goes on after a drop", x.under(2), 2 + 3 * speed);
            x.seed(seedFor(0));
            due("a miss at the last", x.step(), 2);
            due("goes on after that", x.under(2), 3 + 6 * speed);
            due("missed() tells the same minutes", x.missed(0, 0, 3, 0, 0), 2 + 3 * speed);
        }
    }

    private static void asAtBegin() {
        of(0, "A ROUND under way by a LEAPER (JETTIES of the ROW and the HARBOUR as at begin()");
        LettersLeaping x = under("leg 1;speed 1;high 0");
        x.jetty(3, 10, 1, 20);
        x.jetty(3, 15, 1, 20);
        x.leaper(0);
        row(x, 0, 0, 1, 0);
        x.begin(0, 0, 2);
        x.lake(2, 255);
        x.set(0, 0, 0);
        x.step();
        due("from the harbour as it was to the jetty as it was", x.under(2), 16);
        x.show(0, NONE);
        x.step();
        due("to the next of the row as it was", x.under(2), 16 + 5 + 1);
        due("at its end", x.step(), STUCK);
        row(x, 0, 0, 1, 0);
        x.begin(0, 0, 1);
        x.step();
        due("from the harbour as it is now", x.under(2), 15 + 1);
    }

    private static void asAtEachStep() {
        of(0, "all else as at each step()");
        LettersLeaping x = under("leg 1;speed 1;high 0;wet 0;wind 1;skill 1");
        law(x, "leg 9;speed 1;high 0;wet 99;wind 99;skill 0;boat 99");
        law(x, "leg 9;speed 9;high 9;boat 1");
        x.jetty(3, 10, 1, 20);
        x.leaper(99);
        row(x, 0, 0, 0, 0, 0, 0, 0, 0);
        x.begin(0, 0, 6);
        x.seed(seedFor(0));
        due("no risk", x.step(), 0);
        due("leg 1", x.under(2), 11);
        x.force(1);
        x.wet(0, true);
        x.seed(seedFor(98));
        due("wet by the other law", x.step(), 1);
        x.seed(seedFor(99));
        due("not more than wet", x.step(), 0);
        x.wind(0, 9);
        x.seed(seedFor(98));
        due("wind: 990 by 10", x.step(), 2);
        due("1, 1, 1 and 3", x.under(2), 17);
        x.force(2);
        x.seed(seedFor(999));
        due("no time", x.step(), 1);
        x.force(0);
        x.wind(0, 9);
        x.tried(0, 99, 99);
        x.learn(0);
        x.seed(seedFor(6));
        due("a lesser skill, 2: 9 of wind less 2", x.step(), 1);
        due("all six", x.under(1), 6);
    }

    private static void stepsInTheirHours() {
        of(0, "at each JETTY, in the HOUR in which the boat comes there");
        LettersLeaping x = under("leg 2;speed 1;wind 99;skill 0");
        x.jetty(3, 254, 1, 20);
        x.leaper(0);
        x.wind(1, 1);
        row(x, 0, 0, 0, 0, 0);
        x.begin(0, 0, 3);
        x.seed(seedFor(98));
        due("minute 58 is of hour 0", x.step(), 0);
        x.seed(seedFor(98));
        due("minute 59 is of hour 0", x.step(), 0);
        due("it goes on in minute 60", x.under(2), 60);
        x.seed(seedFor(98));
        due("minute 60 is of hour 1", x.step(), 1);
        LettersLeaping y = under("leg 9;speed 1;wind 99;skill 0");
        y.jetty(3, 255, 1, 20);
        y.jetty(3, 0, 1, 20);
        y.jetty(3, 13, 1, 20);
        y.leaper(0);
        y.wind(11, 1);
        // minutes 270, 541, 659, 660, 957
        row(y, 0, 0, 0, 1, 2, 2, 0, 0);
        y.begin(0, 0, 6);
        int[] want = {0, 0, 0, 1, 1, 1};
        for (int i = 0; i < 6; i++) {
            y.seed(seedFor(98));
            due("hour 11 from minute 660 on, leap " + i, y.step(), want[i]);
        }
    }

    private static void refusalCounts() {
        LettersLeaping x = new LettersLeaping();
        int[] counted = new int[5];
        of(0, "-2 BAD a number that may not be, nothing of that number.");
        for (int i = 1; i <= 20; i++) {
            due("a number that may not be", x.leaper(100), BAD);
            due("nothing of that number", x.leaperOf(0, 0), BAD);
            counts(x, counted, 0, 2);
        }
        of(0, "-4 NOTHING: a SHELF that holds NOTHING.");
        for (int i = 1; i <= 10; i++) {
            due("says", x.says(0, 0), NOTHING);
            due("set", x.set(0, 0, 0), NOTHING);
            counts(x, counted, 2, 2);
        }
        of(0, "-5 STUCK: it can't be as things stand.");
        for (int i = 1; i <= 10; i++) {
            due("step", x.step(), STUCK);
            due("back", x.back(), STUCK);
            counts(x, counted, 3, 2);
        }
        of(0, "-3 OTHER: a SHELF that holds another thing than is wanted.");
        x.jetty(0, 0, 1, 0);
        x.row(0, 0, 0);
        x.show(1, 0);
        for (int i = 1; i <= 10; i++) {
            due("a row, not a jetty", x.says(0, 0), OTHER);
            due("a jetty, not a row", x.set(1, 0, 0), OTHER);
            counts(x, counted, 1, 2);
        }
        of(0, "-6 FULL.");
        for (int i = 0; i < 6; i++) {
            x.leaper(0);
        }
        for (int i = 1; i <= 10; i++) {
            due("leaper", x.leaper(0), FULL);
            counts(x, counted, 4, 1);
        }
    }

    /** So many more of one refusal, and no others. */
    private static void counts(LettersLeaping x, int[] counted, int which, int more) {
        counted[which] += more;
        for (int i = 0; i < 5; i++) {
            due("status(" + (12 + i) + ")", x.status(12 + i), counted[i]);
        }
    }

    private static void firstThatFits() {
        of(0, "the first that fits as each line has them");
        LettersLeaping x = new LettersLeaping();
        x.jetty(0, 0, 1, 0);
        x.show(0, 0);
        due("a bad shelf, a jetty, nothing: BAD", x.copy(8, 0, 0, 0, 1), BAD);
        due("a jetty, nothing, a bad place: OTHER", x.copy(0, 1, -1, 0, 1), OTHER);
        due("nothing, a jetty, a bad place: OTHER", x.copy(1, 0, -1, 0, 1), OTHER);
        due("nothing, a bad place: NOTHING", x.copy(1, 1, -1, 0, 1), NOTHING);
        x.row(2, 0, 1);
        due("a row, nothing, a bad place: NOTHING", x.copy(2, 1, -1, 0, 1), NOTHING);
        due("a bad place: BAD", x.copy(2, 2, -1, 0, 1), BAD);
        due("each is counted once: BAD", x.status(12), 2);
        due("each is counted once: OTHER", x.status(13), 2);
        due("each is counted once: NOTHING", x.status(14), 2);
    }

    private static void risesBelowZero() {
        of(0, "(RISE may be below 0: calls that tell it answer -1000 and the number instead.)");
        LettersLeaping x = new LettersLeaping();
        x.jetty(1, 0, 1, 8);
        for (int level = -7; level <= 3; level++) {
            due("a rise like a refusal, at level " + level, x.rise(0, level), -2 - level);
        }
        due("none of these is refused", x.status(12), 0);
        due("one that is", x.rise(1, 0), -1002);
        due("and counted", x.status(12), 1);
    }
}
