/**
 * What each promise answers and changes at the boundaries that its sentences name: the least and
 * the greatest, what is empty or full, what stays or comes again. Refused calls have RefusalTest,
 * the terms TermsTest. Each test says by of(..) which sentence it looks at (RulesTest looks these
 * words up in the document).
 */
public final class BoundaryTest {
    private static final int BAD = -2;
    private static final int OTHER = -3;
    private static final int STUCK = -5;
    private static final int FULL = -6;
    private static final int NONE = LettersLeaping.NONE;
    private static final int MIN = Integer.MIN_VALUE;
    private static final int MAX = Integer.MAX_VALUE;

    private static int wrong = 0;
    private static int checked = 0;
    private static int promise = 0;
    private static String quote = "";

    /** Which sentence is tested from here on. */
    private static void of(int number, String words) {
        promise = number;
        quote = words;
    }

    private static void due(String what, long got, long want) {
        checked++;
        if (got != want) {
            wrong++;
            System.out.println("promise " + promise + " \"" + quote + "\": " + what + " is " + got + ", due is " + want);
        }
    }

    private static int law(LettersLeaping x, String text) {
        for (int i = 0; i < text.length(); i++) {
            x.feed(text.charAt(i), 1);
        }
        return x.law();
    }

    private static LettersLeaping under(String text) {
        LettersLeaping x = new LettersLeaping();
        x.force(law(x, text));
        return x;
    }

    private static void row(LettersLeaping x, int s, int sort, long... values) {
        x.row(s, sort, values.length);
        for (int i = 0; i < values.length; i++) {
            x.set(s, i, values[i]);
        }
    }

    private static void told(LettersLeaping x, int s, long... want) {
        for (int i = 0; i < want.length; i++) {
            due("element " + i + " of shelf " + s, x.element(s, i), want[i]);
        }
        due("no element behind", x.element(s, want.length), 0);
    }

    /** A seed whose next draw below 1000 is a told one. */
    private static int seedFor(int draw) {
        for (int seed = 0; seed < 1000000; seed++) {
            if ((seed * 1103515245 + 12345 >>> 16) % 1000 == draw) {
                return seed;
            }
        }
        return 0;
    }

    /** Rafts at the told spots, all level with the deck, and one leaper without skill. */
    private static LettersLeaping rafts(String text, int... spots) {
        LettersLeaping x = under(text);
        for (int spot : spots) {
            x.jetty(3, spot, 1, 20);
        }
        x.leaper(0);
        return x;
    }

    public static void main(String[] args) {
        newObject();
        rowsAnew();
        setsTheLast();
        copiesAsTheyWere();
        copiesNoneAtTheEnd();
        copiesFullRows();
        elementsOfNone();
        holdsNumbers();
        showsNothing();
        saysItsOwn();
        jettyNumbers();
        jettyOfAll();
        jettyOfNow();
        wetTwice();
        risesBelowZero();
        lakeOfTheSame();
        windOfTheSame();
        windsUntil();
        windsTwelveAtMost();
        feedsLowestBytes();
        wipesTwice();
        lawsEmptyTheTape();
        lawOfAll();
        forcesNone();
        leaperOfAll();
        leapersAndTried();
        learntAndLearn();
        calmOfSeveral();
        roundOfTwenty();
        roundWithoutTimeOrOut();
        bestPlaces();
        teamSums();
        safestOfSeveral();
        missedAtTheLast();
        missedLaterHours();
        missedInTheLastHour();
        pilotAtItsEdges();
        stillAtItsEdges();
        firstOutOfSeveral();
        firstOutAtWeekTwenty();
        liftsOfRows();
        weeksFromZeroToTwenty();
        outsFromZeroToTwenty();
        seeds();
        beginsAnew();
        beginsWithTwenty();
        stepsToTheEnd();
        underAtFirst();
        imagesOfNothing();
        imagesOfFullLakes();
        imagesWithoutShelves();
        backToFewer();
        backAndOnAgain();
        backToLeapers();
        backToRounds();
        newOnesAfterBack();
        statuses();
        System.out.println(wrong == 0 ? checked + " answers at boundaries are as due" : wrong + " are not as due");
        if (wrong != 0) {
            System.exit(1);
        }
    }

    private static void newObject() {
        of(1, "No JETTIES, LAWS, LEAPERS, PARCELS; SHELVES hold NOTHING; THE TAPE is empty.");
        LettersLeaping x = new LettersLeaping();
        due("jetties", x.status(0), 0);
        due("laws", x.status(1), 0);
        due("leapers", x.status(2), 0);
        due("parcels", x.status(3), 0);
        due("the tape", x.status(4), 0);
        due("shelves", x.status(6), 0);
        due("jetty 0", x.jettyOf(0, 0), BAD);
        due("law 0", x.lawOf(0, 0), BAD);
        due("leaper 0", x.leaperOf(0, 0), BAD);
        due("no parcels", x.stops(600), 0);
        due("shelf 0", x.holds(0), NONE);
        due("shelf 7", x.holds(7), NONE);
        LettersLeaping y = new LettersLeaping();
        y.jetty(0, 0, 1, 0);
        y.leaper(0);
        y.row(0, 0, 1);
        due("one object is not another", x.status(0) + x.status(2) + x.status(6), 0);
    }

    // ---- shelves ----

    private static void rowsAnew() {
        of(2, "SHELF s holds a new ROW: 1.");
        LettersLeaping x = new LettersLeaping();
        x.jetty(0, 0, 1, 0);
        for (int s = 0; s < 8; s += 7) {
            row(x, s, 3, 5, 6, 7);
            due("a lesser one", x.row(s, 3, 2), 1);
            told(x, s, 0, 0);
            due("a greater one", x.row(s, 3, 3), 1);
            told(x, s, 0, 0, 0);
            x.set(s, 0, 9);
            due("one of another sort", x.row(s, 0, 3), 1);
            told(x, s, 0, 0, 0);
            x.show(s, 0);
            due("one over a jetty", x.row(s, 4, 1), 1);
            due("its sort", x.holds(s), 4);
        }
        row(x, 1, 2, 1, 2);
        x.row(2, 2, 2);
        told(x, 1, 1, 2);
    }

    private static void setsTheLast() {
        of(3, "Element i of the ROW in SHELF s becomes v: 1.");
        LettersLeaping x = new LettersLeaping();
        x.row(7, 3, 40);
        due("the first", x.set(7, 0, Long.MIN_VALUE), 1);
        due("the last", x.set(7, 39, Long.MAX_VALUE), 1);
        due("the first told", x.element(7, 0), Long.MIN_VALUE);
        due("the last told", x.element(7, 39), Long.MAX_VALUE);
        due("the second stays", x.element(7, 1), 0);
        due("the last but one stays", x.element(7, 38), 0);
        due("again", x.set(7, 39, 5), 1);
        due("told again", x.element(7, 39), 5);
    }

    private static void copiesAsTheyWere() {
        of(4, "n elements of the ROW in SHELF p from place i on come to places j on of that in q (as they were): n.");
        LettersLeaping x = new LettersLeaping();
        row(x, 0, 2, 1, 2, 3, 4, 5);
        due("one up in itself", x.copy(0, 0, 0, 1, 4), 4);
        told(x, 0, 1, 1, 2, 3, 4);
        row(x, 0, 2, 1, 2, 3, 4, 5);
        due("one down in itself", x.copy(0, 0, 1, 0, 4), 4);
        told(x, 0, 2, 3, 4, 5, 5);
        row(x, 0, 2, 1, 2, 3, 4, 5);
        due("onto itself", x.copy(0, 0, 0, 0, 5), 5);
        told(x, 0, 1, 2, 3, 4, 5);
        row(x, 7, 2, 9, 8, 7);
        due("to another, its end", x.copy(0, 7, 3, 1, 2), 2);
        told(x, 7, 9, 4, 5);
        told(x, 0, 1, 2, 3, 4, 5);
        due("from another, its beginning", x.copy(7, 0, 0, 0, 1), 1);
        told(x, 0, 9, 2, 3, 4, 5);
    }

    private static void copiesNoneAtTheEnd() {
        of(4, "n 0 at the end is none of these");
        LettersLeaping x = new LettersLeaping();
        row(x, 0, 2, 1, 2);
        row(x, 1, 2, 3, 4, 5);
        x.row(2, 2, 0);
        due("at both ends", x.copy(0, 1, 2, 3, 0), 0);
        due("behind the first end", x.copy(0, 1, 3, 3, 0), BAD);
        due("behind the second end", x.copy(0, 1, 2, 4, 0), BAD);
        due("in the middle", x.copy(0, 1, 1, 1, 0), 0);
        due("from a row of 0", x.copy(2, 1, 0, 3, 0), 0);
        due("to a row of 0", x.copy(0, 2, 2, 0, 0), 0);
        due("one from a row of 0", x.copy(2, 1, 0, 0, 1), BAD);
        due("one to a row of 0", x.copy(0, 2, 0, 0, 1), BAD);
        told(x, 0, 1, 2);
        told(x, 1, 3, 4, 5);
    }

    private static void copiesFullRows() {
        of(4, "n elements of the ROW in SHELF p from place i on come to places j on of that in q (as they were): n.");
        for (int sort = 0; sort <= 4; sort++) {
            LettersLeaping x = new LettersLeaping();
            x.row(0, sort, 40);
            x.row(1, sort, 40);
            for (int i = 0; i < 40; i++) {
                x.set(0, i, sort == 4 ? i % 3 : -i);
            }
            due("all 40", x.copy(0, 1, 0, 0, 40), 40);
            for (int i = 0; i < 40; i++) {
                due("element " + i, x.element(1, i), sort == 4 ? i % 3 == 0 ? 0 : 1 : -i);
            }
            due("41", x.copy(0, 1, 0, 0, 41), BAD);
            due("40 from the second on", x.copy(0, 1, 1, 0, 40), BAD);
            due("40 to the second on", x.copy(0, 1, 0, 1, 40), BAD);
        }
    }

    private static void elementsOfNone() {
        of(5, "0: none, no ROW (nothing is refused).");
        LettersLeaping x = new LettersLeaping();
        x.jetty(5, 255, 30, 99);
        row(x, 0, 3, 7, 8);
        x.show(1, 0);
        int[] odd = {-1, 2, 40, MIN, MAX};
        for (int i : odd) {
            due("element " + i + " of two", x.element(0, i), 0);
        }
        due("of a jetty", x.element(1, 0), 0);
        due("of nothing", x.element(2, 0), 0);
        row(x, 3, 3, 7, 8);
        x.show(3, 0);
        due("of a jetty where a row was", x.element(3, 0) + x.element(3, 1), 0);
        row(x, 3, 3, 7, 8);
        x.show(3, NONE);
        due("of nothing where a row was", x.element(3, 0) + x.element(3, 1), 0);
        for (int s : new int[] {-1, 8, MIN, MAX}) {
            due("of shelf " + s, x.element(s, 0), 0);
        }
        x.row(0, 3, 1);
        due("of what was there", x.element(0, 1), 0);
        for (int what = 12; what <= 16; what++) {
            due("refused", x.status(what), 0);
        }
    }

    private static void holdsNumbers() {
        of(6, "What SHELF s holds: NONE NOTHING, no SHELF; 0 to 4 a ROW by its SORT; 10 and the number of a JETTY.");
        LettersLeaping x = new LettersLeaping();
        for (int i = 0; i < 20; i++) {
            x.jetty(i % 6, 0, 1, 0);
            x.show(i % 8, i);
            due("jetty " + i, x.holds(i % 8), 10 + i);
        }
        for (int sort = 0; sort <= 4; sort++) {
            x.row(sort, sort, sort * 10);
            due("sort " + sort, x.holds(sort), sort);
        }
        x.show(0, NONE);
        due("nothing", x.holds(0), NONE);
        for (int s : new int[] {-1, 8, MIN, MAX}) {
            due("shelf " + s, x.holds(s), NONE);
        }
    }

    private static void showsNothing() {
        of(7, "SHELF s holds a JETTY, or NOTHING (jetty NONE): 1.");
        LettersLeaping x = new LettersLeaping();
        x.jetty(0, 0, 1, 0);
        due("nothing where nothing was", x.show(7, NONE), 1);
        due("nothing yet", x.holds(7), NONE);
        due("a jetty", x.show(7, 0), 1);
        due("on two shelves at once", x.show(0, 0), 1);
        due("shelf 7", x.holds(7), 10);
        due("shelf 0", x.holds(0), 10);
        due("nothing where a jetty was", x.show(7, NONE), 1);
        due("nothing then", x.holds(7), NONE);
        due("the other stays", x.holds(0), 10);
        due("the jetty stays", x.status(0), 1);
        row(x, 7, 3, 1, 2, 3);
        due("nothing where a row was", x.show(7, NONE), 1);
        due("nothing then", x.holds(7), NONE);
        row(x, 7, 3, 0);
        told(x, 7, 0);
    }

    private static void saysItsOwn() {
        of(8, "What the JETTY in SHELF s, taken for one of a KIND, says: JETTY its SPOT; PIER, STAIR PACES (its own); RAFT, FLOAT RISE (its own) now (0 on); ROCK 1 if it is WET, else 0.");
        LettersLeaping x = new LettersLeaping();
        int o = OTHER;
        int[][] least = {{0, o, o, o, o, o}, {0, 2, o, o, o, o}, {0, 6, 6, o, o, o}, {0, o, o, 0, o, o}, {0, o, o, 0, 0, o},
            {0, o, o, o, o, 0}};
        int[][] most = {{255, o, o, o, o, o}, {255, 60, o, o, o, o}, {255, 64, 64, o, o, o}, {255, o, o, 99, o, o},
            {255, o, o, 49, 49, o}, {255, o, o, o, o, 1}};
        for (int level = -50; level <= 50; level += 50) {
            x = new LettersLeaping();
            x.lake(0, level);
            for (int kind = 0; kind < 6; kind++) {
                x.show(0, x.jetty(kind, 0, 1, 0));
                int greatest = x.jetty(kind, 255, 30, 99);
                x.wet(greatest, true);
                x.show(7, greatest);
                for (int as = 0; as < 6; as++) {
                    due("the least of kind " + kind + " as " + as, x.says(0, as), least[kind][as]);
                    due("the greatest of kind " + kind + " as " + as, x.says(7, as), most[kind][as]);
                }
            }
        }
        x.wet(11, false);
        due("a rock that is dry again", x.says(7, 5), 0);
    }

    // ---- the lake ----

    private static void jettyNumbers() {
        of(9, "A JETTY: its number. BAD; FULL.");
        LettersLeaping x = new LettersLeaping();
        due("the least of all", x.jetty(0, 0, 1, 0), 0);
        due("refused ones take no number", x.jetty(0, 0, 0, 0), BAD);
        due("the greatest of all", x.jetty(5, 255, 30, 99), 1);
        for (int i = 2; i < 20; i++) {
            due("jetty " + i, x.jetty(0, 0, 1, 0), i);
        }
        due("bad, and full", x.jetty(0, 0, 1, 100), BAD);
        due("full", x.jetty(0, 0, 1, 99), FULL);
        due("the greatest stays", x.jettyOf(1, 3), 99);
    }

    private static void jettyOfAll() {
        of(10, "Of a JETTY: KIND (0), SPOT (1), LENGTH (2), HEIGHT (3), PACES (4), 1 if WET (5)");
        LettersLeaping x = new LettersLeaping();
        int[][] least = {{0, 0, 1, 0, 1, 0}, {1, 0, 1, 0, 2, 0}, {2, 0, 1, 0, 6, 0}, {3, 0, 1, 0, 1, 0}, {4, 0, 1, 0, 3, 0},
            {5, 0, 1, 0, 1, 0}};
        int[][] most = {{0, 255, 30, 99, 30, 1}, {1, 255, 30, 99, 60, 1}, {2, 255, 30, 99, 64, 1}, {3, 255, 30, 99, 30, 1},
            {4, 255, 30, 99, 32, 1}, {5, 255, 30, 99, 1, 1}};
        for (int kind = 0; kind < 6; kind++) {
            int low = x.jetty(kind, 0, 1, 0);
            int high = x.jetty(kind, 255, 30, 99);
            x.wet(high, true);
            for (int what = 0; what < 6; what++) {
                due("jettyOf(" + low + ", " + what + ")", x.jettyOf(low, what), least[kind][what]);
                due("jettyOf(" + high + ", " + what + ")", x.jettyOf(high, what), most[kind][what]);
            }
        }
        due("what -1", x.jettyOf(0, -1), BAD);
        due("what 8", x.jettyOf(0, 8), BAD);
    }

    private static void jettyOfNow() {
        of(10, "1 if OUT now (6), 1 if THERE IS TIME by the LAW in force (7).");
        LettersLeaping x = new LettersLeaping();
        x.jetty(0, 0, 17, 50);
        due("not out", x.jettyOf(0, 6), 0);
        x.lake(0, -30);
        due("60 above", x.jettyOf(0, 6), 0);
        x.lake(0, -31);
        due("61 above now", x.jettyOf(0, 6), 1);
        x.lake(1, 0);
        x.lake(0, -26);
        x.lake(1, 19);
        due("60 above a lower deck", x.jettyOf(0, 6), 0);
        x.lake(1, 20);
        due("61 above a lower deck", x.jettyOf(0, 6), 1);
        due("10 of 10", x.jettyOf(0, 7), 1);
        law(x, "box 4");
        due("not in force yet", x.jettyOf(0, 7), 1);
        x.force(0);
        due("11 of 10", x.jettyOf(0, 7), 0);
        x.force(NONE);
        due("10 of 10 again", x.jettyOf(0, 7), 1);
    }

    private static void wetTwice() {
        of(11, "A JETTY is WET, or not: 1 if it was, 0.");
        LettersLeaping x = new LettersLeaping();
        for (int i = 0; i < 20; i++) {
            x.jetty(0, 0, 1, 0);
        }
        due("not wet, not at first", x.wet(19, false), 0);
        due("wet, not yet", x.wet(19, true), 0);
        due("wet, and it was", x.wet(19, true), 1);
        due("told", x.jettyOf(19, 5), 1);
        due("the one ahead stays", x.jettyOf(18, 5), 0);
        due("not wet, but it was", x.wet(19, false), 1);
        due("not wet, and it wasn't", x.wet(19, false), 0);
    }

    private static void risesBelowZero() {
        of(12, "RISE at a LEVEL. -1002: no such ones (counted as BAD).");
        LettersLeaping x = new LettersLeaping();
        x.jetty(1, 0, 1, 0);
        due("the least of all rises", x.rise(0, 50), -60);
        due("just below 0", x.rise(0, -9), -1);
        due("0", x.rise(0, -10), 0);
        x.jetty(0, 0, 1, 99);
        due("the greatest of all", x.rise(1, -50), 149);
        due("nothing was refused", x.status(12), 0);
        due("no such level", x.rise(0, 51), -1002);
        due("counted", x.status(12), 1);
        due("no such jetty", x.rise(2, 0), -1002);
        due("counted", x.status(12), 2);
        x.lake(0, 50);
        due("not by the lake's level", x.rise(0, -10), 0);
    }

    private static void lakeOfTheSame() {
        of(13, "LEVEL (what 0, -50 to 50), GUESTS (1), HARBOUR (2) becomes v: 1 if it was another, 0.");
        int[][] edges = {{-50, 50}, {0, 60}, {0, 255}};
        for (int what = 0; what <= 2; what++) {
            LettersLeaping x = new LettersLeaping();
            due("0 at first", x.lake(what, 0), 0);
            due("the greatest", x.lake(what, edges[what][1]), 1);
            due("the greatest again", x.lake(what, edges[what][1]), 0);
            due("one more", x.lake(what, edges[what][1] + 1), BAD);
            due("the least", x.lake(what, edges[what][0]), 1);
            due("the least again", x.lake(what, edges[what][0]), 0);
            due("one less", x.lake(what, edges[what][0] - 1), BAD);
            due("it stays", x.lake(what, edges[what][0]), 0);
            due("the others stay", x.lake((what + 1) % 3, 0) + x.lake((what + 2) % 3, 0), 0);
        }
    }

    private static void windOfTheSame() {
        of(14, "WIND of an HOUR becomes v: what it was.");
        LettersLeaping x = new LettersLeaping();
        for (int hour = 0; hour <= 11; hour += 11) {
            due("0 at first", x.wind(hour, 9), 0);
            due("9 again", x.wind(hour, 9), 9);
            due("0 then", x.wind(hour, 0), 9);
            due("0 again", x.wind(hour, 5), 0);
        }
        for (int hour = 1; hour <= 10; hour++) {
            due("hour " + hour + " stays", x.wind(hour, 0), 0);
        }
    }

    private static void hasWinds(LettersLeaping x, int... want) {
        for (int hour = 0; hour < want.length; hour++) {
            int wind = x.wind(hour, 0);
            x.wind(hour, wind);
            due("the wind of hour " + hour, wind, want[hour]);
        }
    }

    private static void windsUntil() {
        of(15, "WINDS of HOURS 0 on by the ROW in SHELF s, until an element that may not be, or the ROW ends");
        LettersLeaping x = new LettersLeaping();
        row(x, 0, 3, 9, 0, 1);
        due("until the row ends", x.winds(0), 3);
        hasWinds(x, 9, 0, 1, 0);
        row(x, 0, 3, 4, 10, 5);
        due("until 10", x.winds(0), 1);
        hasWinds(x, 4, 0, 1);
        row(x, 0, 3, 3, 2, -1, 5);
        due("until -1", x.winds(0), 2);
        hasWinds(x, 3, 2, 1, 0);
        row(x, 0, 3, 10, 1);
        due("the first may not be", x.winds(0), 0);
        hasWinds(x, 3, 2, 1, 0);
        for (long v : new long[] {1L << 32, 9 - (1L << 32), Long.MIN_VALUE, Long.MAX_VALUE}) {
            row(x, 0, 3, 5, v, 5);
            due("until " + v, x.winds(0), 1);
        }
        x.row(0, 0, 0);
        due("a row of 0", x.winds(0), 0);
        hasWinds(x, 5, 2, 1, 0);
        row(x, 0, 4, 7, 0);
        due("booleans", x.winds(0), 2);
        hasWinds(x, 1, 0, 1);
    }

    private static void windsTwelveAtMost() {
        of(15, "12 at most: how many.");
        for (int n = 10; n <= 40; n += n < 14 ? 1 : 26) {
            LettersLeaping x = new LettersLeaping();
            x.row(0, 0, n);
            for (int i = 0; i < n; i++) {
                x.set(0, i, i < 12 ? 9 - i % 10 : 77);
            }
            due("of " + n, x.winds(0), Math.min(n, 12));
            hasWinds(x, 9, 8, 7, 6, 5, 4, 3, 2, 1, 0, n > 10 ? 9 : 0, n > 11 ? 8 : 0);
        }
    }

    // ---- laws ----

    private static void feedsLowestBytes() {
        of(16, "THE TAPE gets the n lowest bytes (1 .. 4) of v behind it, the highest of these first: its size.");
        LettersLeaping x = new LettersLeaping();
        due("one of four", x.feed(0x7878786C, 1), 1);
        due("two of four", x.feed(0x78786567, 2), 3);
        due("three of four", x.feed(0x78203120, 3), 6);
        due("four of four", x.feed(0x3B626F78, 4), 10);
        due("the sign's bit of what isn't taken", x.feed(0xFFFFFF35, 1), 11);
        due("a law: leg 1 ;box5", x.law(), 0);
        due("leg", x.lawOf(0, 8), 1);
        due("box", x.lawOf(0, 3), 5);
        x.feed(0x6C656731, 4);
        x.feed(0xFF202020, 4);
        due("the sign's bit of what is taken", x.law(), -24);
        x.feed(0x6C656731, 4);
        x.feed(0x203B3100, 4);
        due("a byte 0 at last", x.law(), -26);
        x.feed(-1, 4);
        due("all bits", x.law(), -20);
        x.feed(MIN, 4);
        due("the least of all", x.law(), -20);
    }

    private static void wipesTwice() {
        of(17, "THE TAPE is empty: its size ahead.");
        LettersLeaping x = new LettersLeaping();
        due("empty at first", x.wipe(), 0);
        for (int i = 0; i < 40; i++) {
            x.feed(0x3B3B3B3B, 4);
        }
        due("full", x.wipe(), 160);
        due("empty", x.status(4), 0);
        due("again", x.wipe(), 0);
        due("nothing of it is left", law(x, "leg 1"), 0);
        due("wiped by law(), too", x.wipe(), 0);
    }

    private static void lawsEmptyTheTape() {
        of(18, "THE TAPE is a LAW: its number;");
        LettersLeaping x = new LettersLeaping();
        due("the first", law(x, "leg 1"), 0);
        of(18, "THE TAPE is empty then, either way.");
        due("empty then", x.status(4), 0);
        due("a fault", law(x, "leg 1 #"), -26);
        due("empty then", x.status(4), 0);
        due("nothing of it is left", law(x, "leg 2"), 1);
        due("no byte at all", x.law(), -20);
        due("nothing of a shorter one", law(x, "leg"), -23);
        of(18, "FULL (ahead of all; THE TAPE stays).");
        for (int i = 2; i < 6; i++) {
            due("law " + i, law(x, "leg 3"), i);
        }
        due("full", law(x, "leg 0"), FULL);
        due("the tape stays", x.status(4), 5);
        due("full again", x.law(), FULL);
        due("the tape stays", x.wipe(), 5);
        due("full of an empty tape", x.law(), FULL);
        due("no fault was counted for these", x.status(12), 3);
        due("six laws", x.status(1), 6);
    }

    private static void lawOfAll() {
        of(19, "Of a LAW: boat (0), speed (1), pace (2), box (3), high (4), wet (5), wind (6), skill (7), leg (8). BAD.");
        LettersLeaping x = new LettersLeaping();
        law(x, "boat 1;speed 1;pace 1;box 0;high 0;wet 0;wind 0;skill 0;leg 1");
        law(x, "boat 99;speed 9;pace 9;box 99;high 9;wet 99;wind 99;skill 9;leg 9");
        law(x, "boat 12;speed 3;pace 4;box 56;high 7;wet 89;wind 90;skill 1;leg 2");
        int[][] want = {{1, 1, 1, 0, 0, 0, 0, 0, 1}, {99, 9, 9, 99, 9, 99, 99, 9, 9}, {12, 3, 4, 56, 7, 89, 90, 1, 2}};
        for (int law = 0; law < 3; law++) {
            for (int what = 0; what < 9; what++) {
                due("number " + what + " of law " + law, x.lawOf(law, what), want[law][what]);
            }
        }
    }

    private static void forcesNone() {
        of(20, "A LAW is in force (NONE: none): which was (NONE).");
        LettersLeaping x = new LettersLeaping();
        due("none at first, and none", x.force(NONE), NONE);
        for (int i = 0; i < 6; i++) {
            law(x, "leg " + (i + 1));
        }
        due("none is in force by being read", x.force(5), NONE);
        due("the last", x.leg(0, 4), 6);
        due("the same again", x.force(5), 5);
        due("a law that isn't", x.force(6), BAD);
        due("the first", x.force(0), 5);
        due("a law that isn't", x.force(-2), BAD);
        due("none again", x.force(NONE), 0);
        due("as at first", x.leg(0, 4), 2);
    }

    // ---- leapers and leaps ----

    private static void leapersAndTried() {
        of(23, "n LEAPS (1 to 99) of a LEAPER were tried, k of them DROPS (0 to n): LEAPS in all.");
        LettersLeaping x = new LettersLeaping();
        x.leaper(0);
        x.leaper(99);
        due("one without a drop", x.tried(1, 1, 0), 1);
        due("drops", x.leaperOf(1, 2), 0);
        due("one drop of one", x.tried(1, 1, 1), 2);
        due("drops", x.leaperOf(1, 2), 1);
        due("99 without a drop", x.tried(1, 99, 0), 101);
        due("99 drops of 99", x.tried(1, 99, 99), 200);
        due("drops", x.leaperOf(1, 2), 100);
        due("100 drops of 99", x.tried(1, 99, 100), BAD);
        due("2 drops of 1", x.tried(1, 1, 2), BAD);
        due("leaps", x.leaperOf(1, 1), 200);
        due("skill stays", x.leaperOf(1, 0), 99);
        due("the other one's leaps", x.leaperOf(0, 1), 0);
    }

    private static void leaperOfAll() {
        of(22, "Of a LEAPER: SKILL (0), LEAPS (1), DROPS (2). BAD.");
        LettersLeaping x = new LettersLeaping();
        int[] skills = {0, 99, 7, 8, 9, 10};
        for (int i = 0; i < 6; i++) {
            x.leaper(skills[i]);
            x.tried(i, 10 + i, i);
        }
        for (int i = 0; i < 6; i++) {
            due("skill of " + i, x.leaperOf(i, 0), skills[i]);
            due("leaps of " + i, x.leaperOf(i, 1), 10 + i);
            due("drops of " + i, x.leaperOf(i, 2), i);
        }
        due("what -1", x.leaperOf(0, -1), BAD);
        due("what 3", x.leaperOf(0, 3), BAD);
        due("leaper 6", x.leaperOf(6, 0), BAD);
        due("leaper -1", x.leaperOf(-1, 0), BAD);
    }

    private static void learntAndLearn() {
        of(25, "SKILL becomes what is LEARNT: the one ahead.");
        LettersLeaping x = new LettersLeaping();
        for (int i = 0; i < 6; i++) {
            x.leaper(i == 5 ? 99 : 0);
        }
        due("none tried", x.learn(5), 99);
        due("50 by none", x.learn(5), 50);
        x.tried(5, 99, 99);
        due("learnt", x.learnt(5), 0);
        due("learnt changes nothing", x.leaperOf(5, 0), 50);
        due("the one ahead", x.learn(5), 50);
        due("the least", x.leaperOf(5, 0), 0);
        x.tried(0, 99, 0);
        due("the one ahead", x.learn(0), 0);
        due("the greatest", x.leaperOf(0, 0), 99);
        due("leaps stay", x.leaperOf(0, 1), 99);
        due("drops stay", x.leaperOf(5, 2), 99);
    }

    private static void calmOfSeveral() {
        of(27, "The HOUR of the least RISK of a LEAPER at a JETTY, of several the first.");
        LettersLeaping x = new LettersLeaping();
        x.jetty(3, 0, 1, 20);
        x.jetty(3, 0, 1, 99);
        x.leaper(0);
        x.leaper(99);
        due("all alike: the first", x.calm(0, 0), 0);
        for (int hour = 0; hour < 12; hour++) {
            x.wind(hour, 9);
        }
        due("all alike: the first", x.calm(0, 0), 0);
        x.wind(11, 8);
        due("the last", x.calm(0, 0), 11);
        x.wind(10, 8);
        due("the first of two", x.calm(0, 0), 10);
        x.wind(0, 8);
        due("the first of three", x.calm(0, 0), 0);
        due("none of risk for her: the first", x.calm(1, 0), 0);
        x.wind(0, 9);
        due("none of risk for her, by any wind", x.calm(1, 0), 0);
        due("1000 in every hour: the first", x.calm(0, 1), 0);
        for (int hour = 0; hour < 12; hour++) {
            for (int other = 0; other < 12; other++) {
                x.wind(other, other == hour ? 3 : 4);
            }
            due("hour " + hour + " alone is calm", x.calm(0, 0), hour);
        }
    }

    // ---- rounds ----

    private static void roundOfTwenty() {
        of(29, "A ROUND told by the first n elements (0 to 20) of the ROW in SHELF s, JETTIES: ITS RISK (what 0), ITS END (1)");
        LettersLeaping x = rafts("leg 1;speed 1", 3, 4);
        x.wet(1, true);
        x.row(0, 0, 40);
        x.set(0, 19, 1);
        x.set(0, 20, 99);
        due("the risk of none", x.round(0, 0, 0, 0), 0);
        due("the risk of 19", x.round(0, 0, 19, 0), 0);
        due("the risk of 20", x.round(0, 0, 20, 0), 40);
        due("the end of 19", x.round(0, 0, 19, 1), 3 + 18);
        due("the end of 20", x.round(0, 0, 20, 1), 3 + 20);
        due("21", x.round(0, 0, 21, 1), BAD);
        row(x, 1, 0, 1);
        due("all of a row of one", x.round(0, 1, 1, 1), 4);
        due("two of a row of one", x.round(0, 1, 2, 1), BAD);
    }

    private static void roundWithoutTimeOrOut() {
        of(29, "JETTIES without TIME, or OUT (2; each time).");
        LettersLeaping x = new LettersLeaping();
        x.leaper(0);
        x.jetty(0, 0, 17, 20);
        x.jetty(0, 0, 18, 20);
        x.jetty(3, 0, 1, 81);
        x.jetty(3, 0, 30, 81);
        x.jetty(3, 0, 1, 80);
        row(x, 0, 0, 0, 1, 2, 3, 4);
        int[] want = {0, 0, 1, 2, 3, 3};
        for (int n = 0; n <= 5; n++) {
            due("of " + n, x.round(0, 0, n, 2), want[n]);
        }
        x.row(1, 0, 20);
        due("none of twenty", x.round(0, 1, 20, 2), 0);
        for (int i = 0; i < 20; i++) {
            x.set(1, i, 3);
        }
        due("twenty of twenty, each once", x.round(0, 1, 20, 2), 20);
    }

    private static void bestPlaces() {
        of(30, "BEST: ITS RISK (what 0), ITS END (1), the JETTY at place i (10 and i).");
        LettersLeaping x = rafts("leg 1;speed 1", 9, 3, 6);
        x.wet(0, true);
        due("risk", x.best(0, 7, 11, 0), 40);
        due("end", x.best(0, 7, 11, 1), 11);
        due("place 0", x.best(0, 7, 11, 10), 1);
        due("place 1", x.best(0, 7, 11, 11), 2);
        due("place 2", x.best(0, 7, 11, 12), 0);
        due("place 3", x.best(0, 7, 11, 13), BAD);
        due("place -1", x.best(0, 7, 11, 9), BAD);
        due("place 0 of one", x.best(0, 4, 11, 10), 2);
        due("place 1 of one", x.best(0, 4, 11, 11), BAD);
        of(30, "STUCK: no order ends by then.");
        due("a minute too early", x.best(0, 7, 10, 0), STUCK);
        due("at the end itself", x.best(0, 7, 11, 0), 40);
        due("one by 3", x.best(0, 2, 3, 1), 3);
        due("one by 2", x.best(0, 2, 2, 1), STUCK);
        due("after a stuck one", x.best(0, 7, 999, 1), 11);
        of(30, "BEST: ITS RISK (what 0), ITS END (1), the JETTY at place i (10 and i).");
        x.leaper(10);
        due("by another leaper", x.best(1, 7, 11, 0), 0);
        due("by the first again", x.best(0, 7, 11, 0), 40);
    }

    private static void teamSums() {
        of(31, "TEAM: the sum (what NONE), the LEAPER of a JETTY of the set.");
        LettersLeaping x = under("high 1;skill 1");
        for (int i = 0; i < 20; i++) {
            x.jetty(3, 0, 1, 20 + i);
        }
        x.leaper(5);
        x.leaper(15);
        due("the last jetty alone", x.team(1 << 19, 1, 0, NONE), 4);
        due("her", x.team(1 << 19, 1, 0, 19), 1);
        due("not of the set", x.team(1 << 19, 1, 0, 18), BAD);
        due("no jetty", x.team(1 << 19, 1, 0, 20), BAD);
        due("the first without risk", x.team(1, 1, 0, 0), 0);
        due("the sum of two", x.team(1 << 19 | 1 << 18, 1, 0, NONE), 4 + 13);
        due("alike both ways: the first to the lesser", x.team(1 << 19 | 1 << 18, 1, 0, 18), 0);
        due("the other", x.team(1 << 19 | 1 << 18, 1, 0, 19), 1);
        of(31, "STUCK: fewer LEAPERS than that takes.");
        due("two for two", x.team(3, 1, 0, NONE), 0);
        due("two for three", x.team(7, 1, 0, NONE), STUCK);
        due("two for six by three each", x.team(63, 3, 0, NONE), 0);
        due("two for five by two each", x.team(31, 2, 0, NONE), STUCK);
    }

    private static void safestOfSeveral() {
        of(32, "The LEAPER of the least RISK at a JETTY in an HOUR, of several the first.");
        LettersLeaping x = new LettersLeaping();
        x.jetty(3, 0, 1, 40);
        x.jetty(3, 0, 1, 99);
        x.leaper(3);
        due("the one there is", x.safest(0, 0), 0);
        x.leaper(3);
        due("the first of two alike", x.safest(0, 0), 0);
        x.leaper(4);
        x.leaper(4);
        x.leaper(2);
        due("the first of the better two", x.safest(0, 0), 2);
        x.leaper(5);
        due("the last", x.safest(0, 11), 5);
        due("1000 for all: the first", x.safest(1, 0), 0);
        for (int i = 0; i < 6; i++) {
            x.tried(i, 9, 9 - i);
            x.learn(i);
        }
        due("none of risk: the first of these", x.safest(0, 0), 1);
    }

    private static void missedAtTheLast() {
        of(33, "A ROUND as round() tells it, with a MISS at place i (0 on) of it: ITS END (what 0; at the last one it stays)");
        LettersLeaping x = rafts("leg 1;speed 2", 4, 8);
        row(x, 0, 0, 0, 1, 0);
        due("without", x.round(0, 0, 3, 1), 2 + 3 + 3);
        due("at the first", x.missed(0, 0, 3, 0, 0), 8 + 6);
        due("at the last but one", x.missed(0, 0, 3, 1, 0), 8 + 6);
        due("at the last it stays", x.missed(0, 0, 3, 2, 0), 8);
        due("at the only one it stays", x.missed(0, 0, 1, 0, 0), 2);
        due("behind the last", x.missed(0, 0, 3, 3, 0), BAD);
        due("of none", x.missed(0, 0, 0, 0, 0), BAD);
        x.row(1, 0, 20);
        due("at the first of twenty", x.missed(0, 1, 20, 0, 0), 2 + 19 + 6);
        due("at the last of twenty", x.missed(0, 1, 20, 19, 0), 2 + 19);
    }

    private static void missedLaterHours() {
        of(33, "ITS RISK (1), how many of its JETTIES (each time) come in a later HOUR than without (2).");
        LettersLeaping x = rafts("leg 2;speed 1", 248);
        x.row(0, 0, 20);
        // far 15 and 8: minutes 46 to 65 without, three later with a miss
        due("without", x.round(0, 0, 1, 1), 46);
        due("at 0: those of 57, 58 and 59", x.missed(0, 0, 20, 0, 2), 3);
        due("at 10, minute 56: the same", x.missed(0, 0, 20, 10, 2), 3);
        due("at 11, minute 57: its own hour stays", x.missed(0, 0, 20, 11, 2), 2);
        due("at 13, minute 59: none", x.missed(0, 0, 20, 13, 2), 0);
        due("at the last: none", x.missed(0, 0, 20, 19, 2), 0);
        due("of the first 13", x.missed(0, 0, 13, 0, 2), 2);
        due("of the first 11", x.missed(0, 0, 11, 0, 2), 0);
        x.wind(1, 1);
        due("their risks without", x.round(0, 0, 20, 0), 6 * 20);
        due("their risks with a miss", x.missed(0, 0, 20, 0, 1), 9 * 20);
        due("a risk at the last stays", x.missed(0, 0, 20, 19, 1), 6 * 20);
    }

    private static void missedInTheLastHour() {
        of(33, "ITS RISK (1), how many of its JETTIES (each time) come in a later HOUR than without (2).");
        LettersLeaping x = rafts("leg 9;speed 1", 255, 0, 13, 12);
        // minutes 270, 541, 659, 669, 670; with a miss at 1 those of 659 on are three later
        row(x, 0, 0, 0, 1, 2, 3, 3);
        due("without", x.round(0, 0, 5, 1), 670);
        due("659 comes in hour 11, the others were there", x.missed(0, 0, 5, 1, 2), 1);
        row(x, 0, 0, 0, 1, 0, 0, 0);
        due("all of hour 11 stay in it", x.missed(0, 0, 5, 2, 2), 0);
    }

    private static void pilotAtItsEdges() {
        of(34, "The least speed (1 to 9), all else being as by the LAW in force, by which a ROUND "
                + "(the first n elements, 0 to 20, of the ROW in SHELF s: JETTIES) ends by a told minute (0 to 999); NONE: none.");
        LettersLeaping x = rafts("leg 9;speed 5", 2, 2);
        row(x, 0, 0, 0, 1);
        int[] ends = {18, 9, 6, 5, 4, 3, 3, 3, 2};
        for (int speed = 1; speed <= 9; speed++) {
            int end = ends[speed - 1];
            int least = 1;
            while (ends[least - 1] > end) {
                least++;
            }
            due("by minute " + end, x.pilot(0, 1, end), least);
            due("both, by minute " + (end + 1), x.pilot(0, 2, end + 1), least);
        }
        due("by 17", x.pilot(0, 1, 17), 2);
        due("by 1", x.pilot(0, 1, 1), NONE);
        due("by 0", x.pilot(0, 1, 0), NONE);
        LettersLeaping ten = rafts("leg 5;speed 1", 2);
        ten.row(0, 0, 1);
        due("10 by 9 are 2", ten.pilot(0, 1, 2), 5);
        due("10 by 10 were 1", ten.pilot(0, 1, 1), NONE);
        due("both, by 2", x.pilot(0, 2, 2), NONE);
        due("by 999", x.pilot(0, 1, 999), 1);
        due("none at all, by 0", x.pilot(0, 0, 0), 1);
        due("the law's speed stays", x.leg(0, 2), 4);
        x.row(1, 0, 20);
        due("twenty, by 37", x.pilot(1, 20, 37), 1);
        due("twenty, by 36", x.pilot(1, 20, 36), 2);
        due("twenty, by 20", x.pilot(1, 20, 20), NONE);
        LettersLeaping far = rafts("leg 9;speed 5", 255, 0);
        row(far, 0, 0, 0, 1, 0, 1);
        due("ends in minute 1083 by speed 1, 543 by 2", far.pilot(0, 4, 999), 2);
        due("543", far.pilot(0, 4, 543), 2);
        due("542", far.pilot(0, 4, 542), 3);
    }

    private static void stillAtItsEdges() {
        of(35, "The greatest speed (1 to 9) by which THERE IS TIME at all JETTIES of a ROUND likewise; NONE: none.");
        int[] lengths = {1, 2, 3, 5, 6};
        LettersLeaping x = under("pace 2;box 0;boat 9;speed 1");
        for (int length : lengths) {
            x.jetty(3, 0, length, 20);
        }
        x.jetty(3, 0, 10, 20);
        int[] alone = {9, 4, 3, 1, 1, NONE};
        for (int i = 0; i < 6; i++) {
            row(x, 0, 0, i);
            due("jetty " + i + " alone", x.still(0, 1), alone[i]);
        }
        due("none at all", x.still(0, 0), 9);
        row(x, 0, 0, 0, 1, 2, 3, 5);
        int[] firsts = {9, 9, 4, 3, 1, NONE};
        for (int n = 0; n <= 5; n++) {
            due("the first " + n, x.still(0, n), firsts[n]);
        }
        x.row(1, 0, 20);
        x.set(1, 19, 2);
        due("the last of twenty counts", x.still(1, 20), 3);
        due("but not of nineteen", x.still(1, 19), 9);
        x.lake(0, 50);
        x.jetty(0, 0, 1, 0);
        row(x, 2, 0, 6);
        due("out, but there is time", x.still(2, 1), 9);
    }

    // ---- weeks ----

    private static void firstOutOfSeveral() {
        of(36, "The JETTY that is OUT in the earliest WEEK (0 to 20), the LEVEL falling by v (1 to 20) a WEEK, of several the first; NONE.");
        LettersLeaping x = new LettersLeaping();
        due("no jetties", x.firstOut(1), NONE);
        x.jetty(4, 0, 1, 99);
        due("a float never", x.firstOut(20), NONE);
        LettersLeaping alone = new LettersLeaping();
        alone.jetty(0, 0, 1, 70);
        due("the one there is", alone.firstOut(1), 0);
        alone.jetty(0, 0, 1, 70);
        due("the first of two alike", alone.firstOut(1), 0);
        alone.jetty(0, 0, 1, 71);
        due("the last", alone.firstOut(1), 2);
        x.jetty(0, 0, 1, 70);
        x.jetty(0, 0, 1, 75);
        due("the higher one is out earlier", x.firstOut(1), 2);
        due("both in week 1", x.firstOut(11), 1);
        due("in week 1 the higher one alone", x.firstOut(10), 2);
        x.jetty(3, 0, 1, 80);
        due("a raft of 80 never", x.firstOut(1), 2);
        x.jetty(3, 0, 1, 81);
        x.jetty(3, 0, 1, 99);
        due("the first that is out now", x.firstOut(1), 4);
        due("by any fall", x.firstOut(20), 4);
    }

    private static void firstOutAtWeekTwenty() {
        of(36, "The JETTY that is OUT in the earliest WEEK (0 to 20)");
        LettersLeaping x = new LettersLeaping();
        x.jetty(0, 0, 1, 60);
        due("80 in week 20, not out", x.firstOut(1), NONE);
        x.jetty(0, 0, 1, 61);
        due("81 in week 20", x.firstOut(1), 1);
        for (int i = 2; i < 20; i++) {
            x.jetty(4, 0, 1, 0);
        }
        x.lake(0, 1);
        due("one lower", x.firstOut(1), NONE);
        LettersLeaping y = new LettersLeaping();
        for (int i = 0; i < 20; i++) {
            y.jetty(i < 19 ? 4 : 0, 0, 1, 61);
        }
        due("the last of twenty", y.firstOut(1), 19);
    }

    private static void weeksFromZeroToTwenty() {
        of(40, "The first WEEK (0: now; to 20) in which a JETTY is OUT, the LEVEL falling by v (1 to 20) a WEEK; NONE.");
        for (int height = 55; height <= 85; height++) {
            LettersLeaping x = new LettersLeaping();
            x.jetty(0, 0, 1, height);
            int weeks = Math.max(0, 81 - height);
            due("height " + height + " by 1", x.week(0, 1), weeks > 20 ? NONE : weeks);
            due("height " + height + " by 20", x.week(0, 20), (weeks + 19) / 20);
        }
        LettersLeaping x = new LettersLeaping();
        x.jetty(0, 0, 1, 0);
        x.lake(0, 50);
        due("too low now", x.week(0, 1), 0);
        x.lake(0, 40);
        due("60 below now, far above in week 7", x.week(0, 20), 7);
        due("never by 1", x.week(0, 1), NONE);
        due("6 a week: 120 in all, not out", x.week(0, 6), NONE);
        due("7 a week: 126 in week 18", x.week(0, 7), 18);
        due("the level stays", x.lake(0, 40), 0);
    }

    private static void outsFromZeroToTwenty() {
        of(41, "JETTIES (bits) that are OUT in a WEEK (0 to 20) by it.");
        LettersLeaping x = new LettersLeaping();
        due("no jetties", x.outs(0, 1), 0);
        due("no jetties", x.outs(20, 20), 0);
        for (int i = 0; i < 20; i++) {
            x.jetty(0, 0, 1, 80 - i);
        }
        for (int week = 0; week <= 20; week++) {
            due("week " + week + " by 1", x.outs(week, 1), (1 << week) - 1 & 0xFFFFF);
            due("week " + week + " by 20", x.outs(week, 20), week == 0 ? 0 : 0xFFFFF);
        }
        LettersLeaping y = new LettersLeaping();
        for (int i = 0; i < 20; i++) {
            y.jetty(i == 19 ? 3 : 4, 0, 1, 99);
        }
        due("the last of twenty now", y.outs(0, 1), 1 << 19);
        due("the last of twenty ever", y.outs(20, 20), 1 << 19);
    }

    // ---- letters ----

    private static void liftsOfRows() {
        of(37, "LIFTS of a BAG (the first n elements, 0 to 40, of the ROW in SHELF s: JETTIES) on a ROUND (the first k elements, 0 to 20, of that in SHELF t: JETTIES).");
        LettersLeaping x = new LettersLeaping();
        x.jetty(0, 0, 1, 0);
        x.jetty(0, 0, 1, 0);
        x.row(0, 3, 40);
        x.row(7, 4, 20);
        x.set(0, 20, 1);
        x.set(7, 19, 1);
        due("all of 0 are taken ahead", x.lifts(0, 40, 7, 20), 1);
        due("none for 1 by then", x.lifts(0, 40, 7, 19), 1);
        due("the lower 20", x.lifts(0, 20, 7, 20), 0);
        due("the lower 21", x.lifts(0, 21, 7, 20), 1);
        x.set(7, 0, 1);
        due("19 above the twenty-first", x.lifts(0, 40, 7, 1), 19);
        due("the bag stays in its row", x.lifts(0, 40, 7, 1), 19);
        due("no letters", x.lifts(0, 0, 7, 20), 0);
        due("no round", x.lifts(0, 40, 7, 0), 0);
        due("the bag as its own round", x.lifts(7, 20, 7, 20), 18);
    }

    // ---- a round under way ----

    private static void seeds() {
        of(42, "SEED becomes v: the one ahead.");
        LettersLeaping x = new LettersLeaping();
        int[] seeds = {1, 0, -1, MIN, MAX, -2, -6, 1};
        for (int i = 1; i < seeds.length; i++) {
            due("seed " + seeds[i], x.seed(seeds[i]), seeds[i - 1]);
            due("told", x.status(5), seeds[i]);
        }
        due("nothing is refused", x.status(12) + x.status(16), 0);
    }

    private static void beginsAnew() {
        of(43, "A ROUND (as round() tells it) is under way by a LEAPER (another one is given up): how many JETTIES.");
        LettersLeaping x = rafts("leg 1;speed 1", 5, 9);
        x.leaper(99);
        x.wet(1, true);
        x.row(0, 0, 20);
        row(x, 1, 0, 1, 1, 1);
        due("three", x.begin(1, 1, 3), 3);
        x.force(NONE);
        x.seed(seedFor(0));
        x.step();
        due("one done", x.under(1), 1);
        due("twenty", x.begin(0, 0, 20), 20);
        due("her", x.under(0), 0);
        due("none done", x.under(1), 0);
        due("in minute 0", x.under(2), 0);
        due("leaps of the one given up stay", x.leaperOf(1, 1), 1);
        due("none", x.begin(1, 0, 0), 0);
        due("her", x.under(0), 1);
        due("at its end at once", x.step(), STUCK);
        due("one more than may be", x.begin(0, 0, 21), BAD);
        due("the one begun stays", x.under(0), 1);
        due("the same again", x.begin(1, 1, 3), 3);
        due("from its beginning", x.under(1), 0);
        // 1000 of risk: a miss and a drop, and none of them in the next round
        x.jetty(3, 0, 1, 99);
        row(x, 2, 0, 2, 2, 2);
        x.begin(0, 2, 3);
        x.seed(seedFor(0));
        due("a miss", x.step(), 2);
        x.seed(seedFor(500));
        due("a drop", x.step(), 1);
        due("drops", x.under(3), 1);
        due("misses", x.under(4), 1);
        x.begin(0, 0, 20);
        due("no drops yet", x.under(3), 0);
        due("no misses yet", x.under(4), 0);
        due("no leaps yet", x.under(1), 0);
        due("in minute 0", x.under(2), 0);
    }

    private static void beginsWithTwenty() {
        of(43, "how many JETTIES.");
        LettersLeaping x = rafts("leg 1;speed 1", 5, 15);
        x.row(0, 0, 40);
        x.set(0, 19, 1);
        x.set(0, 20, 99);
        due("twenty of forty", x.begin(0, 0, 20), 20);
        for (int i = 0; i < 19; i++) {
            x.step();
        }
        due("nineteen at the same spot", x.under(2), 5 + 19);
        due("the twentieth", x.step(), 0);
        due("the twentieth is another one", x.under(2), 5 + 19 + 10 + 1);
        due("at its end", x.step(), STUCK);
    }

    private static void stepsToTheEnd() {
        of(44, "The next leap of it: 0 in the box, 1 a DROP, 2 a MISS. STUCK: none is under way, it is at its end.");
        LettersLeaping x = rafts("leg 1;speed 1", 5);
        due("none begun", x.step(), STUCK);
        due("no draw for it", x.status(5), 1);
        x.row(0, 0, 20);
        x.begin(0, 0, 20);
        for (int i = 1; i <= 20; i++) {
            due("leap " + i, x.step(), 0);
            due("done", x.under(1), i);
            due("goes on", x.under(2), 5 + i);
        }
        int seed = x.status(5);
        due("at its end", x.step(), STUCK);
        due("no draw for it", x.status(5), seed);
        due("no leap for it", x.leaperOf(0, 1), 20);
        due("no more done", x.under(1), 20);
        due("the minute stays", x.under(2), 25);
        x.begin(0, 0, 1);
        due("another one", x.step(), 0);
        due("at its end", x.step(), STUCK);
        due("stuck three times", x.status(15), 3);
        x.jetty(3, 0, 1, 99);
        row(x, 1, 0, 1, 1, 0, 1);
        x.begin(0, 1, 4);
        int[] draws = {99, 100, 0, 999};
        int[] want = {2, 1, 0, 1};
        for (int i = 0; i < 4; i++) {
            x.seed(seedFor(draws[i]));
            due("a draw of " + draws[i], x.step(), want[i]);
        }
    }

    private static void underAtFirst() {
        of(45, "Of it: LEAPER (0), leaps done (1), the minute in which the boat goes on (2), DROPS that were no MISS (3), MISSES (4).");
        LettersLeaping x = rafts("leg 1;speed 9;boat 99", 0);
        x.leaper(0);
        x.jetty(3, 0, 1, 81);
        row(x, 0, 0, 1, 1, 1, 0);
        x.begin(1, 0, 4);
        int[][] want = {{1, 0, 0, 0, 0}, {1, 1, 28, 0, 1}, {1, 2, 29, 1, 1}, {1, 3, 57, 1, 2}, {1, 4, 58, 1, 2}};
        int[] draws = {99, 100, 0, 0};
        for (int i = 0; i <= 4; i++) {
            for (int what = 0; what <= 4; what++) {
                due("under(" + what + ") after " + i, x.under(what), want[i][what]);
            }
            if (i < 4) {
                x.seed(seedFor(draws[i]));
                x.step();
            }
        }
        due("drops in all", x.leaperOf(1, 2), 3);
        due("leaps in all", x.leaperOf(1, 1), 4);
    }

    // ---- the whole ----

    private static void imagesOfNothing() {
        of(46, "All is kept, but THE TAPE, SHELVES and REFUSALS in status(): 1.");
        LettersLeaping x = new LettersLeaping();
        due("image", x.image(), 1);
        for (int i = 0; i < 20; i++) {
            x.jetty(0, 0, 1, 0);
        }
        for (int i = 0; i < 6; i++) {
            x.leaper(0);
            law(x, "leg 9");
        }
        for (int i = 0; i < 10; i++) {
            x.parcel(0, 1, 1);
        }
        x.force(5);
        x.lake(0, 50);
        x.lake(1, 60);
        x.lake(2, 255);
        x.wind(0, 9);
        x.wind(11, 9);
        x.seed(77);
        x.row(0, 0, 1);
        x.begin(0, 0, 1);
        due("back", x.back(), 1);
        int[] want = {0, 0, 0, 0, 0, 1, 1, 0, 0};
        for (int what = 0; what <= 8; what++) {
            due("status(" + what + ")", x.status(what), want[what]);
        }
        due("no law in force", x.force(NONE), NONE);
        due("level", x.lake(0, 0), 0);
        due("wind of hour 0", x.wind(0, 0), 0);
        due("wind of hour 11", x.wind(11, 0), 0);
        due("none was begun", x.under(0), STUCK);
        due("none is under way", x.step(), STUCK);
        due("room for the first jetty", x.jetty(0, 0, 1, 0), 0);
        due("room for the first leaper", x.leaper(0), 0);
        due("room for the first parcel", x.parcel(0, 1, 1), 0);
        due("room for the first law", law(x, "leg 1"), 0);
        due("a row stays", x.holds(0), 0);
    }

    private static void imagesOfFullLakes() {
        of(46, "All is kept");
        LettersLeaping x = new LettersLeaping();
        for (int i = 0; i < 20; i++) {
            x.jetty(i % 6, i, 1 + i, 2 * i);
            x.wet(i, i % 2 == 1);
        }
        for (int i = 0; i < 6; i++) {
            x.leaper(10 + i);
            law(x, "leg " + (i + 1));
        }
        for (int i = 0; i < 10; i++) {
            x.parcel(0, 1 + i, 1 + i);
        }
        for (int hour = 0; hour < 12; hour++) {
            x.wind(hour, hour % 10);
        }
        due("image", x.image(), 1);
        for (int i = 0; i < 20; i++) {
            x.wet(i, i % 2 == 0);
        }
        for (int hour = 0; hour < 12; hour++) {
            x.wind(hour, 9);
        }
        for (int i = 0; i < 6; i++) {
            x.tried(i, 9, 9);
            x.learn(i);
        }
        due("back", x.back(), 1);
        for (int i = 0; i < 20; i++) {
            due("jetty " + i, x.jettyOf(i, 0) + 10 * x.jettyOf(i, 1), i % 6 + 10 * i);
            due("wet " + i, x.jettyOf(i, 5), i % 2);
        }
        for (int i = 0; i < 6; i++) {
            due("skill of " + i, x.leaperOf(i, 0), 10 + i);
            due("leaps of " + i, x.leaperOf(i, 1), 0);
            due("law " + i, x.lawOf(i, 8), i + 1);
        }
        for (int hour = 0; hour < 12; hour++) {
            due("wind of hour " + hour, x.wind(hour, 0), hour % 10);
        }
        due("parcels", x.stops(55), 1023);
        due("parcels", x.stops(10), 15);
        due("full of jetties", x.jetty(0, 0, 1, 0), FULL);
        due("full of leapers", x.leaper(0), FULL);
        due("full of laws", x.law(), FULL);
        due("full of parcels", x.parcel(0, 1, 1), FULL);
    }

    private static void imagesWithoutShelves() {
        of(46, "All is kept, but THE TAPE, SHELVES and REFUSALS in status(): 1.");
        LettersLeaping x = new LettersLeaping();
        x.jetty(0, 0, 1, 0);
        row(x, 0, 3, 1, 2, 3);
        x.show(1, 0);
        x.feed(0x6C656738, 4);
        x.leaper(100);
        x.image();
        x.set(0, 1, 9);
        x.show(1, NONE);
        x.row(2, 0, 0);
        x.wipe();
        x.feed(0x6C656739, 4);
        x.feed(' ', 1);
        x.leaper(100);
        x.step();
        due("back", x.back(), 1);
        told(x, 0, 1, 9, 3);
        due("a shelf that holds nothing by now", x.holds(1), NONE);
        due("a shelf that holds a row by now", x.holds(2), 0);
        due("the tape's size", x.status(4), 5);
        due("the tape", x.law(), 0);
        due("as it is by now", x.lawOf(0, 8), 9);
        due("refused", x.status(12), 2);
        due("stuck", x.status(15), 1);
    }

    private static void backToFewer() {
        of(47, "(SHELVES with JETTIES hold those of the same numbers, or NOTHING): 1.");
        LettersLeaping x = new LettersLeaping();
        x.jetty(0, 11, 1, 0);
        x.jetty(0, 22, 1, 0);
        x.image();
        x.jetty(0, 33, 1, 0);
        x.jetty(0, 44, 1, 0);
        for (int s = 0; s < 4; s++) {
            x.show(s, s);
            x.show(s + 4, 3 - s);
        }
        due("eight shelves", x.status(6), 8);
        x.back();
        due("four shelves", x.status(6), 4);
        due("jetty 0", x.holds(0), 10);
        due("the last that is there", x.holds(1), 11);
        due("the first that isn't", x.holds(2), NONE);
        due("the next that isn't", x.holds(3), NONE);
        due("shelf 4", x.holds(4), NONE);
        due("shelf 7", x.holds(7), 10);
        due("what it says", x.says(1, 0), 22);
        x.jetty(0, 55, 1, 0);
        due("a new jetty 2 is on no shelf", x.holds(2), NONE);
        // back to a time without any
        LettersLeaping y = new LettersLeaping();
        y.image();
        y.jetty(5, 66, 1, 0);
        for (int s = 0; s < 8; s++) {
            y.show(s, 0);
        }
        y.back();
        for (int s = 0; s < 8; s++) {
            due("back to none, shelf " + s, y.holds(s), NONE);
        }
        y.jetty(1, 77, 1, 0);
        y.show(0, 0);
        y.image();
        y.wet(0, true);
        y.back();
        due("the same number", y.holds(0), 10);
        due("as it was kept", y.jettyOf(0, 5), 0);
        due("its spot", y.says(0, 0), 77);
    }

    private static void backAndOnAgain() {
        of(47, "All is again as it was kept");
        LettersLeaping x = rafts("leg 1;speed 1", 5);
        x.row(0, 0, 3);
        x.begin(0, 0, 3);
        x.step();
        x.image();
        x.step();
        x.step();
        due("at its end", x.step(), STUCK);
        due("back", x.back(), 1);
        due("one leap done", x.under(1), 1);
        due("leaps", x.leaperOf(0, 1), 1);
        due("the minute", x.under(2), 6);
        due("seed", x.status(5), 1103527590);
        due("the second leap", x.step(), 0);
        due("the third leap", x.step(), 0);
        due("at its end", x.step(), STUCK);
        due("back again", x.back(), 1);
        due("one leap done again", x.under(1), 1);
        due("a newer image", x.image(), 1);
        x.step();
        due("back to the newer one", x.back(), 1);
        due("one leap done", x.under(1), 1);
        x.step();
        x.image();
        x.step();
        x.back();
        due("back to the newest alone", x.under(1), 2);
    }

    private static void backToLeapers() {
        of(47, "All is again as it was kept");
        LettersLeaping x = rafts("leg 1;speed 1", 5);
        x.leaper(33);
        x.tried(1, 9, 4);
        x.wet(0, true);
        x.lake(0, 12);
        x.lake(1, 34);
        x.lake(2, 56);
        x.image();
        x.tried(1, 50, 50);
        x.learn(1);
        x.wet(0, false);
        x.lake(0, 1);
        x.lake(1, 2);
        x.lake(2, 3);
        x.force(NONE);
        x.back();
        due("skill", x.leaperOf(1, 0), 33);
        due("leaps", x.leaperOf(1, 1), 9);
        due("drops", x.leaperOf(1, 2), 4);
        due("wet", x.jettyOf(0, 5), 1);
        due("level", x.lake(0, 12), 0);
        due("guests", x.lake(1, 34), 0);
        due("harbour", x.lake(2, 56), 0);
        due("the law in force", x.force(NONE), 0);
    }

    private static void backToRounds() {
        of(47, "All is again as it was kept");
        LettersLeaping x = rafts("leg 1;speed 1;boat 99", 5, 9, 15);
        x.leaper(0);
        x.jetty(3, 0, 1, 99);
        row(x, 0, 0, 3, 3, 1, 2);
        x.lake(2, 16);
        x.begin(1, 0, 4);
        x.seed(seedFor(0));
        due("a miss", x.step(), 2);
        x.seed(seedFor(500));
        due("a drop", x.step(), 1);
        due("1, 1, 3 and 1", x.under(2), 6);
        x.image();
        row(x, 0, 0, 0, 0, 0, 0, 0);
        x.begin(0, 0, 5);
        x.step();
        x.back();
        int[] want = {1, 2, 6, 1, 1};
        for (int what = 0; what <= 4; what++) {
            due("under(" + what + ")", x.under(what), want[what]);
        }
        due("the third leap", x.step(), 0);
        due("from spot 0 to 9", x.under(2), 6 + 9 + 1);
        due("the fourth leap", x.step(), 0);
        due("from spot 9 to 15", x.under(2), 16 + 6 + 1);
        due("at its end", x.step(), STUCK);
        due("four leaps", x.under(1), 4);
        x.back();
        due("once more", x.under(1), 2);
        row(x, 1, 0, 2, 2, 2, 2, 2, 2, 2, 2, 2, 2, 2, 2, 2, 2, 2, 2, 2, 2, 2, 1);
        x.begin(0, 1, 20);
        x.image();
        x.row(2, 0, 20);
        x.begin(0, 2, 20);
        x.back();
        for (int i = 0; i < 19; i++) {
            x.step();
        }
        int minute = x.under(2);
        due("the twentieth", x.step(), 0);
        due("from spot 15 to 9", x.under(2), minute + 6 + 1);
    }

    private static void newOnesAfterBack() {
        of(47, "All is again as it was kept");
        LettersLeaping x = new LettersLeaping();
        x.image();
        x.jetty(5, 255, 30, 99);
        x.wet(0, true);
        x.leaper(99);
        x.tried(0, 99, 99);
        law(x, "boat 99;speed 9;leg 9");
        x.parcel(0, 60, 99);
        x.back();
        due("jetty 0 anew", x.jetty(1, 7, 2, 3), 0);
        int[] want = {1, 7, 2, 3, 4, 0};
        for (int what = 0; what < want.length; what++) {
            due("jettyOf(0, " + what + ")", x.jettyOf(0, what), want[what]);
        }
        due("leaper 0 anew", x.leaper(5), 0);
        due("skill", x.leaperOf(0, 0), 5);
        due("leaps", x.leaperOf(0, 1), 0);
        due("drops", x.leaperOf(0, 2), 0);
        due("law 0 anew", law(x, "box 1"), 0);
        due("boat", x.lawOf(0, 0), 40);
        due("leg", x.lawOf(0, 8), 2);
        due("parcel 0 anew", x.parcel(0, 1, 1), 0);
        due("its minutes", x.stops(1), 1);
    }

    private static void statuses() {
        of(48, "12 to 16: REFUSALS -2 to -6. NONE another what.");
        LettersLeaping x = new LettersLeaping();
        x.row(0, 0, 0);
        x.leaper(100);
        for (int i = 0; i < 2; i++) {
            x.says(0, 0);
        }
        for (int i = 0; i < 3; i++) {
            x.says(1, 0);
        }
        for (int i = 0; i < 4; i++) {
            x.step();
        }
        for (int i = 0; i < 11; i++) {
            x.leaper(0);
        }
        int[] want = {NONE, NONE, NONE, 1, 2, 3, 4, 5, NONE, NONE};
        for (int i = 0; i < want.length; i++) {
            due("status(" + (9 + i) + ")", x.status(9 + i), want[i]);
        }
        for (int what : new int[] {-1, -2, 100, MIN, MAX, MIN + 12, 12 + (1 << 16)}) {
            due("status(" + what + ")", x.status(what), NONE);
        }
        due("nothing of this is refused", x.status(12), 1);
        statusOfAll();
        of(48, "SHELVES that hold something (6)");
        for (int s = 0; s < 8; s++) {
            x.row(s, 0, 0);
            due("rows of 0 are something", x.status(6), s + 1);
        }
    }

    private static void statusOfAll() {
        of(48, "JETTIES (0), LAWS (1), LEAPERS (2), PARCELS (3), THE TAPE's size (4), SEED (5), SHELVES that hold something (6), "
                + "GUESTS (7), HARBOUR (8)");
        LettersLeaping x = new LettersLeaping();
        int[] empty = {0, 0, 0, 0, 0, 1, 0, 0, 0};
        for (int what = 0; what <= 8; what++) {
            due("status(" + what + ") at first", x.status(what), empty[what]);
        }
        for (int i = 0; i < 20; i++) {
            x.jetty(0, 0, 1, 0);
        }
        for (int i = 0; i < 6; i++) {
            x.leaper(0);
            law(x, "leg 1");
        }
        for (int i = 0; i < 10; i++) {
            x.parcel(0, 1, 1);
        }
        for (int i = 0; i < 40; i++) {
            x.feed(0, 4);
        }
        x.seed(MIN);
        for (int s = 0; s < 8; s++) {
            x.show(s, 0);
        }
        x.lake(1, 60);
        x.lake(2, 255);
        int[] full = {20, 6, 6, 10, 160, MIN, 8, 60, 255};
        for (int what = 0; what <= 8; what++) {
            due("status(" + what + ") of all that may be", x.status(what), full[what]);
        }
    }
}
