/** For each promise of the document: ordinary inputs, the edges it names, and wrong inputs. */
public final class PromiseTest {
    private static final int BAD = -2;
    private static final int OTHER = -3;
    private static final int NOTHING = -4;
    private static final int STUCK = -5;
    private static final int FULL = -6;
    private static final int NONE = LettersLeaping.NONE;

    private static int wrong = 0;
    private static int checked = 0;
    private static int promise = 0;

    private static void due(String call, long got, long want) {
        checked++;
        if (got != want) {
            wrong++;
            System.out.println("promise " + promise + ": " + call + " answered " + got + ", due is " + want);
        }
    }

    /** What was refused until now, by code -2 to -6. */
    private static void refused(LettersLeaping x, int bad, int other, int nothing, int stuck, int full) {
        due("status(12)", x.status(12), bad);
        due("status(13)", x.status(13), other);
        due("status(14)", x.status(14), nothing);
        due("status(15)", x.status(15), stuck);
        due("status(16)", x.status(16), full);
    }

    /** Four bytes at a time, as an object is good for 512 calls. */
    private static void write(LettersLeaping x, String text) {
        for (int from = 0; from < text.length(); from += 4) {
            int n = Math.min(4, text.length() - from);
            int bytes = 0;
            for (int i = from; i < from + n; i++) {
                bytes = bytes << 8 | text.charAt(i) & 255;
            }
            x.feed(bytes, n);
        }
    }

    private static int law(LettersLeaping x, String text) {
        write(x, text);
        return x.law();
    }

    private static void row(LettersLeaping x, int s, int sort, long... values) {
        x.row(s, sort, values.length);
        for (int i = 0; i < values.length; i++) {
            x.set(s, i, values[i]);
        }
    }

    /** One jetty of each kind, numbered as the kinds are. */
    private static LettersLeaping kinds() {
        LettersLeaping x = new LettersLeaping();
        x.jetty(0, 3, 8, 30);
        x.jetty(1, 35, 3, 45);
        x.jetty(2, 80, 2, 20);
        x.jetty(3, 18, 10, 25);
        x.jetty(4, 66, 5, 61);
        x.jetty(5, 7, 30, 90);
        return x;
    }

    /** Shelf 0 a row of three jetties, 1 one with no jetty in it, 2 a jetty, 3 nothing. */
    private static LettersLeaping rounds() {
        LettersLeaping x = new LettersLeaping();
        x.jetty(0, 4, 2, 20);
        x.jetty(0, 20, 2, 30);
        x.jetty(5, 255, 1, 99);
        x.leaper(0);
        x.leaper(10);
        row(x, 0, 2, 0, 1, 2);
        row(x, 1, 3, 0, 1L << 32, 3, -1);
        x.show(2, 1);
        return x;
    }

    public static void main(String[] args) {
        newObject(); rows(); sets(); copies(); elements(); holds(); shows(); says(); jetties(); jettyOfs();
        wets(); rises(); lakes(); wind(); winds(); feeds(); wipes(); laws(); lawOfs(); forces();
        leapers(); leaperOfs(); trieds(); learnts(); learns(); risks(); calms(); legs(); roundsTold(); bests();
        teams(); safests(); misseds(); pilots(); stills(); firstOuts(); lifts(); parcels(); stops(); weeks();
        outs(); seeds(); begins(); steps(); unders(); images(); backs(); statuses();
        System.out.println(wrong == 0 ? checked + " answers are as due" : wrong + " answers are not as due");
        if (wrong != 0) {
            System.exit(1);
        }
    }

    private static void newObject() {
        promise = 1;
        LettersLeaping x = new LettersLeaping();
        for (int what = 0; what <= 16; what++) {
            int want = what == 5 ? 1 : what >= 9 && what <= 11 ? NONE : 0;
            due("status(" + what + ")", x.status(what), want);
        }
        for (int s = 0; s < 8; s++) {
            due("holds", x.holds(s), NONE);
        }
        due("step()", x.step(), STUCK);
        due("under(0)", x.under(0), STUCK);
        due("back()", x.back(), STUCK);
        due("force(NONE)", x.force(NONE), NONE);
        due("wipe()", x.wipe(), 0);
        for (int hour = 0; hour < 12; hour++) {
            due("wind", x.wind(hour, 0), 0);
        }
        due("level", x.lake(0, 0), 0);
        due("guests", x.lake(1, 0), 0);
        due("harbour", x.lake(2, 0), 0);
    }

    private static void rows() {
        promise = 2;
        LettersLeaping x = new LettersLeaping();
        due("row", x.row(0, 0, 0), 1);
        due("row", x.row(7, 4, 40), 1);
        due("holds", x.holds(0), 0);
        due("holds", x.holds(7), 4);
        due("row", x.row(-1, 0, 0), BAD);
        due("row", x.row(8, 0, 0), BAD);
        due("row", x.row(0, -1, 0), BAD);
        due("row", x.row(0, 5, 0), BAD);
        due("row", x.row(0, 0, -1), BAD);
        due("row", x.row(0, 0, 41), BAD);
        due("row", x.row(Integer.MIN_VALUE, Integer.MAX_VALUE, Integer.MIN_VALUE), BAD);
        refused(x, 7, 0, 0, 0, 0);
        row(x, 1, 2, 5, 6, 7);
        due("row again", x.row(1, 2, 3), 1);
        due("element", x.element(1, 1), 0);
        x.jetty(0, 0, 1, 0);
        x.show(2, 0);
        due("row over a jetty", x.row(2, 1, 2), 1);
        due("holds", x.holds(2), 1);
    }

    private static void sets() {
        promise = 3;
        LettersLeaping x = new LettersLeaping();
        long v = 0x123456789ABCDEF0L;
        for (int sort = 0; sort < 5; sort++) {
            x.row(sort, sort, 2);
            due("set", x.set(sort, 1, v), 1);
        }
        due("byte", x.element(0, 1), (byte) 0xF0);
        due("short", x.element(1, 1), (short) 0xDEF0);
        due("int", x.element(2, 1), 0x9ABCDEF0);
        due("long", x.element(3, 1), v);
        due("boolean", x.element(4, 1), 1);
        x.set(4, 1, 0);
        due("boolean", x.element(4, 1), 0);
        x.set(4, 0, Long.MIN_VALUE);
        due("boolean", x.element(4, 0), 1);
        x.set(0, 0, 128);
        due("byte", x.element(0, 0), -128);
        x.set(0, 0, 256);
        due("byte", x.element(0, 0), 0);
        x.jetty(0, 0, 1, 0);
        x.show(6, 0);
        due("no shelf", x.set(8, 0, 0), BAD);
        due("no shelf", x.set(-1, 0, 0), BAD);
        due("a jetty", x.set(6, -1, 0), OTHER);
        due("nothing", x.set(7, -1, 0), NOTHING);
        due("below", x.set(0, -1, 0), BAD);
        due("beyond", x.set(0, 2, 0), BAD);
        x.row(7, 0, 0);
        due("of none", x.set(7, 0, 0), BAD);
        refused(x, 5, 1, 1, 0, 0);
    }

    private static void copies() {
        promise = 4;
        LettersLeaping x = new LettersLeaping();
        row(x, 0, 2, 1, 2, 3, 4, 5);
        row(x, 1, 2, 9, 9, 9);
        due("copy", x.copy(0, 1, 1, 0, 2), 2);
        due("element", x.element(1, 0), 2);
        due("element", x.element(1, 1), 3);
        due("element", x.element(1, 2), 9);
        due("onto itself, up", x.copy(0, 0, 0, 1, 4), 4);
        due("element", x.element(0, 0), 1);
        due("element", x.element(0, 1), 1);
        due("element", x.element(0, 2), 2);
        due("element", x.element(0, 4), 4);
        due("onto itself, down", x.copy(0, 0, 1, 0, 4), 4);
        due("element", x.element(0, 0), 1);
        due("element", x.element(0, 3), 4);
        due("none at the end", x.copy(0, 1, 5, 3, 0), 0);
        due("none behind the end", x.copy(0, 1, 6, 3, 0), BAD);
        due("none behind the end", x.copy(0, 1, 5, 4, 0), BAD);
        due("too many", x.copy(0, 1, 0, 0, 4), BAD);
        due("too many", x.copy(0, 1, 4, 0, 2), BAD);
        due("below", x.copy(0, 1, -1, 0, 1), BAD);
        due("below", x.copy(0, 1, 0, -1, 1), BAD);
        due("below", x.copy(0, 1, 0, 0, -1), BAD);
        due("wrapping", x.copy(0, 1, Integer.MAX_VALUE, 0, Integer.MAX_VALUE), BAD);
        due("wrapping", x.copy(0, 1, 1, 1, Integer.MAX_VALUE), BAD);
        refused(x, 9, 0, 0, 0, 0);
        x.row(2, 1, 0);
        x.jetty(0, 0, 1, 0);
        x.show(3, 0);
        due("no shelf", x.copy(8, 3, 0, 0, 0), BAD);
        due("no shelf", x.copy(3, -1, 0, 0, 0), BAD);
        due("a jetty", x.copy(3, 4, 0, 0, 0), OTHER);
        due("a jetty", x.copy(4, 3, 0, 0, 0), OTHER);
        due("a jetty", x.copy(0, 3, -1, 0, 0), OTHER);
        due("two sorts, one of 0", x.copy(0, 2, 0, 0, -1), OTHER);
        due("two sorts, one of 0", x.copy(2, 0, 0, 0, 0), OTHER);
        due("nothing", x.copy(0, 4, -1, 0, 0), NOTHING);
        due("nothing", x.copy(4, 0, -1, 0, 0), NOTHING);
        due("nothing", x.copy(4, 4, 0, 0, 0), NOTHING);
        refused(x, 11, 5, 3, 0, 0);
    }

    private static void elements() {
        promise = 5;
        LettersLeaping x = new LettersLeaping();
        row(x, 0, 3, Long.MIN_VALUE, 7);
        due("element", x.element(0, 0), Long.MIN_VALUE);
        due("element", x.element(0, 1), 7);
        due("beyond", x.element(0, 2), 0);
        due("below", x.element(0, -1), 0);
        due("nothing", x.element(1, 0), 0);
        due("no shelf", x.element(8, 0), 0);
        due("no shelf", x.element(-1, 0), 0);
        x.jetty(0, 9, 1, 0);
        x.show(0, 0);
        due("a jetty", x.element(0, 0), 0);
        refused(x, 0, 0, 0, 0, 0);
    }

    private static void holds() {
        promise = 6;
        LettersLeaping x = kinds();
        for (int sort = 0; sort < 5; sort++) {
            x.row(sort, sort, 0);
            due("holds", x.holds(sort), sort);
        }
        x.show(5, 0);
        x.show(6, 5);
        due("jetty 0", x.holds(5), 10);
        due("jetty 5", x.holds(6), 15);
        due("nothing", x.holds(7), NONE);
        due("no shelf", x.holds(8), NONE);
        due("no shelf", x.holds(-1), NONE);
        refused(x, 0, 0, 0, 0, 0);
    }

    private static void shows() {
        promise = 7;
        LettersLeaping x = kinds();
        due("show", x.show(0, 5), 1);
        due("holds", x.holds(0), 15);
        due("none", x.show(0, NONE), 1);
        due("holds", x.holds(0), NONE);
        due("none on an empty one", x.show(0, NONE), 1);
        x.row(1, 2, 3);
        due("none on a row", x.show(1, NONE), 1);
        due("holds", x.holds(1), NONE);
        due("no shelf", x.show(8, 0), BAD);
        due("no shelf", x.show(-1, NONE), BAD);
        due("no jetty", x.show(0, 6), BAD);
        due("no jetty", x.show(0, -2), BAD);
        refused(x, 4, 0, 0, 0, 0);
    }

    private static void says() {
        promise = 8;
        LettersLeaping x = kinds();
        x.wet(5, true);
        x.lake(0, 50);
        for (int s = 0; s < 6; s++) {
            x.show(s, s);
        }
        int o = OTHER;
        int[][] want = {
            {3, o, o, o, o, o},
            {35, 6, o, o, o, o},
            {80, 8, 8, o, o, o},
            {18, o, o, 25, o, o},
            {66, o, o, 30, 30, o},
            {7, o, o, o, o, 1}};
        for (int s = 0; s < 6; s++) {
            for (int kind = 0; kind < 6; kind++) {
                due("says(" + s + ", " + kind + ")", x.says(s, kind), want[s][kind]);
            }
        }
        x.wet(5, false);
        due("dry", x.says(5, 5), 0);
        x.row(6, 0, 1);
        due("no shelf", x.says(8, 0), BAD);
        due("no shelf", x.says(-1, 0), BAD);
        due("no kind", x.says(6, 6), BAD);
        due("no kind", x.says(7, -1), BAD);
        due("a row", x.says(6, 0), OTHER);
        due("nothing", x.says(7, 0), NOTHING);
        refused(x, 4, 24, 1, 0, 0);
    }

    private static void jetties() {
        promise = 9;
        LettersLeaping x = new LettersLeaping();
        due("jetty", x.jetty(0, 0, 1, 0), 0);
        due("jetty", x.jetty(5, 255, 30, 99), 1);
        due("kind", x.jetty(-1, 0, 1, 0), BAD);
        due("kind", x.jetty(6, 0, 1, 0), BAD);
        due("spot", x.jetty(0, -1, 1, 0), BAD);
        due("spot", x.jetty(0, 256, 1, 0), BAD);
        due("length", x.jetty(0, 0, 0, 0), BAD);
        due("length", x.jetty(0, 0, 31, 0), BAD);
        due("height", x.jetty(0, 0, 1, -1), BAD);
        due("height", x.jetty(0, 0, 1, 100), BAD);
        for (int i = 2; i < 20; i++) {
            due("jetty", x.jetty(i % 6, i, 1, i), i);
        }
        due("bad ahead of full", x.jetty(0, 256, 1, 0), BAD);
        due("full", x.jetty(0, 0, 1, 0), FULL);
        due("status(0)", x.status(0), 20);
        refused(x, 9, 0, 0, 0, 1);
    }

    private static void jettyOfs() {
        promise = 10;
        LettersLeaping x = kinds();
        x.wet(3, true);
        int[][] want = {
            {0, 3, 8, 30, 8, 0, 0, 1},
            {1, 35, 3, 45, 6, 0, 0, 1},
            {2, 80, 2, 20, 8, 0, 0, 1},
            {3, 18, 10, 25, 10, 1, 0, 1},
            {4, 66, 5, 61, 7, 0, 0, 1},
            {5, 7, 30, 90, 1, 0, 1, 1}};
        for (int jetty = 0; jetty < 6; jetty++) {
            for (int what = 0; what < 8; what++) {
                due("jettyOf(" + jetty + ", " + what + ")", x.jettyOf(jetty, what), want[jetty][what]);
            }
        }
        due("no jetty", x.jettyOf(6, 0), BAD);
        due("no jetty", x.jettyOf(-1, 0), BAD);
        due("no such thing", x.jettyOf(0, 8), BAD);
        due("no such thing", x.jettyOf(0, -1), BAD);
        refused(x, 4, 0, 0, 0, 0);
        outAtItsEdges();
        timeAtItsEdges();
    }

    private static void outAtItsEdges() {
        LettersLeaping x = new LettersLeaping();
        x.jetty(0, 0, 1, 80);
        x.jetty(0, 0, 1, 81);
        x.jetty(0, 0, 1, 10);
        x.jetty(0, 0, 1, 9);
        due("60 above", x.jettyOf(0, 6), 0);
        due("61 above", x.jettyOf(1, 6), 1);
        x.lake(0, 50);
        due("60 below", x.jettyOf(2, 6), 0);
        due("61 below", x.jettyOf(3, 6), 1);
        x.lake(1, 3);
        due("three guests don't count", x.jettyOf(3, 6), 1);
        x.lake(1, 4);
        due("four guests do", x.jettyOf(3, 6), 0);
    }

    private static void timeAtItsEdges() {
        LettersLeaping x = new LettersLeaping();
        x.jetty(0, 0, 17, 20);
        x.jetty(0, 0, 18, 20);
        due("34 by 5 are 7, and 3 are 10", x.jettyOf(0, 7), 1);
        due("36 by 5 are 8, and 3 are 11", x.jettyOf(1, 7), 0);
        x.force(law(x, "boat 43"));
        due("43 by 4 are 10", x.jettyOf(1, 7), 0);
        x.force(law(x, "boat 44"));
        due("44 by 4 are 11", x.jettyOf(1, 7), 1);
        x.force(law(x, "box 2"));
        due("less at the box", x.jettyOf(1, 7), 1);
        x.force(law(x, "pace 6"));
        due("36 by 6 are 6", x.jettyOf(1, 7), 1);
        x.force(law(x, "speed 5"));
        due("a faster boat", x.jettyOf(0, 7), 0);
    }

    private static void wets() {
        promise = 11;
        LettersLeaping x = kinds();
        due("wet", x.wet(2, true), 0);
        due("wet", x.wet(2, true), 1);
        due("jettyOf", x.jettyOf(2, 5), 1);
        due("wet", x.wet(2, false), 1);
        due("wet", x.wet(2, false), 0);
        due("no jetty", x.wet(6, true), BAD);
        due("no jetty", x.wet(-1, false), BAD);
        refused(x, 2, 0, 0, 0, 0);
    }

    private static void rises() {
        promise = 12;
        LettersLeaping x = kinds();
        int[] level = {-50, 0, 50};
        int[][] want = {{80, 30, -20}, {85, 35, -15}, {60, 10, 0}, {25, 25, 25}, {30, 30, 30}, {140, 90, 40}};
        for (int jetty = 0; jetty < 6; jetty++) {
            for (int i = 0; i < 3; i++) {
                due("rise(" + jetty + ", " + level[i] + ")", x.rise(jetty, level[i]), want[jetty][i]);
            }
        }
        due("the stair at 10", x.rise(2, 10), 0);
        due("the stair at 9", x.rise(2, 9), 1);
        due("no jetty", x.rise(6, 0), -1002);
        due("no jetty", x.rise(-1, 0), -1002);
        due("no level", x.rise(0, 51), -1002);
        due("no level", x.rise(0, -51), -1002);
        refused(x, 4, 0, 0, 0, 0);
    }

    private static void lakes() {
        promise = 13;
        LettersLeaping x = kinds();
        due("level", x.lake(0, -50), 1);
        due("level", x.lake(0, -50), 0);
        due("level", x.lake(0, 50), 1);
        due("guests", x.lake(1, 60), 1);
        due("guests", x.lake(1, 60), 0);
        due("guests", x.lake(1, 0), 1);
        due("harbour", x.lake(2, 255), 1);
        due("harbour", x.lake(2, 255), 0);
        due("harbour", x.lake(2, 0), 1);
        due("level", x.lake(0, 51), BAD);
        due("level", x.lake(0, -51), BAD);
        due("guests", x.lake(1, -1), BAD);
        due("guests", x.lake(1, 61), BAD);
        due("harbour", x.lake(2, -1), BAD);
        due("harbour", x.lake(2, 256), BAD);
        due("no such thing", x.lake(3, 0), BAD);
        due("no such thing", x.lake(-1, 0), BAD);
        refused(x, 8, 0, 0, 0, 0);
        due("level stays", x.lake(0, 50), 0);
        due("guests stay", x.status(7), 0);
        due("harbour stays", x.status(8), 0);
        due("a jetty at the level now", x.jettyOf(0, 6), 0);
        x.lake(1, 7);
        x.lake(2, 9);
        due("status(7)", x.status(7), 7);
        due("status(8)", x.status(8), 9);
    }

    private static void wind() {
        promise = 14;
        LettersLeaping x = new LettersLeaping();
        due("wind", x.wind(0, 9), 0);
        due("wind", x.wind(0, 4), 9);
        due("wind", x.wind(11, 1), 0);
        due("wind", x.wind(11, 0), 1);
        due("no hour", x.wind(12, 0), BAD);
        due("no hour", x.wind(-1, 0), BAD);
        due("no wind", x.wind(0, 10), BAD);
        due("no wind", x.wind(0, -1), BAD);
        due("it stays", x.wind(0, 0), 4);
        refused(x, 4, 0, 0, 0, 0);
    }

    private static void winds() {
        promise = 15;
        LettersLeaping x = kinds();
        row(x, 0, 3, 9, 8, 7, 10, 5);
        due("winds", x.winds(0), 3);
        due("wind", x.wind(0, 1), 9);
        due("wind", x.wind(1, 1), 8);
        due("wind", x.wind(2, 1), 7);
        due("wind", x.wind(3, 1), 0);
        due("wind", x.wind(4, 1), 0);
        row(x, 0, 3, 1L << 32);
        due("no wind in 64 bits", x.winds(0), 0);
        row(x, 0, 0, 2, -1);
        due("below 0", x.winds(0), 1);
        due("wind", x.wind(0, 0), 2);
        row(x, 0, 1, 1, 2, 3, 4, 5, 6, 7, 8, 9, 8, 7, 6, 5, 4);
        due("twelve at most", x.winds(0), 12);
        due("wind", x.wind(11, 0), 6);
        x.row(1, 4, 0);
        due("a row of 0", x.winds(1), 0);
        x.row(1, 4, 1);
        due("booleans", x.winds(1), 1);
        due("wind", x.wind(0, 0), 0);
        x.show(2, 0);
        due("no shelf", x.winds(8), BAD);
        due("no shelf", x.winds(-1), BAD);
        due("a jetty", x.winds(2), OTHER);
        due("nothing", x.winds(3), NOTHING);
        refused(x, 2, 1, 1, 0, 0);
    }

    private static void feeds() {
        promise = 16;
        LettersLeaping x = new LettersLeaping();
        due("feed", x.feed('l', 1), 1);
        due("feed", x.feed(0x7F006567, 2), 3);
        due("feed", x.feed(0x20202020, 4), 7);
        due("feed", x.feed(0xFF203720, 3), 10);
        due("law", x.law(), 0);
        due("lawOf", x.lawOf(0, 8), 7);
        due("none", x.feed(0, 0), BAD);
        due("below", x.feed(0, -1), BAD);
        due("too many", x.feed(0, 5), BAD);
        for (int i = 1; i <= 39; i++) {
            due("feed", x.feed(0, 4), 4 * i);
        }
        due("feed", x.feed(0, 1), 157);
        due("full", x.feed(0, 4), FULL);
        due("bad ahead of full", x.feed(0, 5), BAD);
        due("size", x.status(4), 157);
        due("the last three", x.feed(0, 3), 160);
        due("full", x.feed(0, 1), FULL);
        refused(x, 4, 0, 0, 0, 2);
    }

    private static void wipes() {
        promise = 17;
        LettersLeaping x = new LettersLeaping();
        write(x, "boat 4");
        due("wipe", x.wipe(), 6);
        due("wipe", x.wipe(), 0);
        due("size", x.status(4), 0);
        due("the rest alone", law(x, "leg 1"), 0);
    }

    private static void laws() {
        promise = 18;
        LettersLeaping x = new LettersLeaping();
        due("a law", law(x, "boat 1;speed 1;pace 1;box 0;high 0;wet 0;wind 0;skill 0;leg 1"), 0);
        due("a law", law(x, "  boat99 ;speed09;pace 9;box 99  ;high9;wet 99;wind 99;skill 9;leg 9  "), 1);
        due("later counts", law(x, "wet 1;wet 2;wet 3"), 2);
        due("lawOf", x.lawOf(2, 5), 3);
        due("size", x.status(4), 0);
        String[] texts = {"", "   ", "boat", "boat ", "boat 4;", "boat 4; ", ";", "boat;", "boat 4;;",
            "4", "boat boat", "boat 4 5", "boat 4 leg 1", "boats 4", "boa 4", "Boat 4", "boat 4;boatleg 1",
            "boat 0", "boat 100", "boat 004", "speed 0", "speed 10", "pace 0", "pace 10", "box 100",
            "high 10", "wet 100", "wind 100", "skill 10", "leg 0", "leg 10", "leg 1#", "leg#", "#leg 1",
            "leg -1", "leg\t1", "leg 1;wind 5;skill 4x", "leg 1,box 1", "wet", "leg 1;wet12;x",
            "leg 12345678901234567890", "leg" + (char) 233 + " 1", "le g 1", "goat 1", "beg 1", "les 1",
            "leg 1;ind 1"};
        int[] faults = {0, 3, 4, 5, 7, 8, 0, 4, 7,
            0, 5, 7, 7, 0, 0, 0, 7,
            5, 5, 5, 6, 6, 5, 5, 4,
            5, 4, 5, 6, 4, 4, 5, 3, 0,
            4, 3, 20, 5, 3, 12,
            4, 3, 0, 0, 0, 0,
            6};
        for (int i = 0; i < texts.length; i++) {
            due("law of \"" + texts[i] + "\"", law(x, texts[i]), -20 - faults[i]);
            due("empty then", x.status(4), 0);
        }
        due("status(1)", x.status(1), 3);
        refused(x, texts.length, 0, 0, 0, 0);
        due("a law", law(x, "leg 1"), 3);
        due("a law", law(x, "leg 1"), 4);
        due("a law", law(x, "leg 1"), 5);
        due("full", law(x, "leg 0"), FULL);
        due("the tape stays", x.status(4), 5);
        due("full", x.law(), FULL);
        refused(x, texts.length, 0, 0, 0, 2);
        longLaws();
    }

    private static void longLaws() {
        LettersLeaping x = new LettersLeaping();
        StringBuilder text = new StringBuilder();
        for (int i = 0; i < 31; i++) {
            text.append("leg1;");
        }
        due("160 bytes, ending too early", law(x, text.append("wet  ").toString()), -180);
        text.setLength(155);
        due("160 bytes", law(x, text.append("leg 9").toString()), 0);
        due("lawOf", x.lawOf(0, 8), 9);
        text.setLength(155);
        due("160 bytes, a fault at the last", law(x, text.append("leg9;").toString()), -180);
        text.setLength(155);
        due("160 bytes, a fault at the last", law(x, text.append("leg9!").toString()), -179);
        due("signs alone", law(x, ";".repeat(160)), -20);
    }

    private static void lawOfs() {
        promise = 19;
        LettersLeaping x = new LettersLeaping();
        int[] first = {40, 4, 5, 3, 3, 40, 20, 4, 2};
        String[] words = {"boat", "speed", "pace", "box", "high", "wet", "wind", "skill", "leg"};
        law(x, "box 3");
        for (int what = 0; what < 9; what++) {
            due("at first", x.lawOf(0, what), first[what]);
        }
        law(x, "boat 11;speed 2;pace 3;box 44;high 5;wet 66;wind 77;skill 8;leg 9");
        int[] told = {11, 2, 3, 44, 5, 66, 77, 8, 9};
        for (int what = 0; what < 9; what++) {
            due(words[what], x.lawOf(1, what), told[what]);
        }
        law(x, "boat 99;boat 0");
        law(x, "wet 0");
        due("nothing of a faulty one", x.lawOf(2, 0), 40);
        due("the least", x.lawOf(2, 5), 0);
        due("no law", x.lawOf(3, 0), BAD);
        due("no law", x.lawOf(-1, 0), BAD);
        due("no such thing", x.lawOf(0, 9), BAD);
        due("no such thing", x.lawOf(0, -1), BAD);
        refused(x, 5, 0, 0, 0, 0);
    }

    private static void forces() {
        promise = 20;
        LettersLeaping x = new LettersLeaping();
        law(x, "leg 9");
        law(x, "leg 5");
        due("leg", x.leg(0, 4), 2);
        due("force", x.force(1), NONE);
        due("leg", x.leg(0, 4), 5);
        due("force", x.force(0), 1);
        due("leg", x.leg(0, 4), 9);
        due("no law", x.force(2), BAD);
        due("no law", x.force(-2), BAD);
        due("force", x.force(NONE), 0);
        due("leg", x.leg(0, 4), 2);
        due("force", x.force(NONE), NONE);
        refused(x, 2, 0, 0, 0, 0);
    }

    private static void leapers() {
        promise = 21;
        LettersLeaping x = new LettersLeaping();
        due("leaper", x.leaper(0), 0);
        due("leaper", x.leaper(99), 1);
        due("skill", x.leaper(-1), BAD);
        due("skill", x.leaper(100), BAD);
        for (int i = 2; i < 6; i++) {
            due("leaper", x.leaper(i), i);
        }
        due("bad ahead of full", x.leaper(100), BAD);
        due("full", x.leaper(0), FULL);
        due("status(2)", x.status(2), 6);
        refused(x, 3, 0, 0, 0, 1);
    }

    private static void leaperOfs() {
        promise = 22;
        LettersLeaping x = new LettersLeaping();
        x.leaper(7);
        x.leaper(42);
        x.tried(1, 9, 4);
        int[][] want = {{7, 0, 0}, {42, 9, 4}};
        for (int leaper = 0; leaper < 2; leaper++) {
            for (int what = 0; what < 3; what++) {
                due("leaperOf(" + leaper + ", " + what + ")", x.leaperOf(leaper, what), want[leaper][what]);
            }
        }
        due("no leaper", x.leaperOf(2, 0), BAD);
        due("no leaper", x.leaperOf(-1, 0), BAD);
        due("no such thing", x.leaperOf(0, 3), BAD);
        due("no such thing", x.leaperOf(0, -1), BAD);
        refused(x, 4, 0, 0, 0, 0);
    }

    private static void trieds() {
        promise = 23;
        LettersLeaping x = new LettersLeaping();
        x.leaper(7);
        due("tried", x.tried(0, 1, 0), 1);
        due("tried", x.tried(0, 99, 99), 100);
        due("drops", x.leaperOf(0, 2), 99);
        due("skill stays", x.leaperOf(0, 0), 7);
        due("no leaper", x.tried(1, 1, 0), BAD);
        due("no leaper", x.tried(-1, 1, 0), BAD);
        due("none", x.tried(0, 0, 0), BAD);
        due("too many", x.tried(0, 100, 0), BAD);
        due("fewer drops", x.tried(0, 5, -1), BAD);
        due("more drops", x.tried(0, 5, 6), BAD);
        due("leaps stay", x.leaperOf(0, 1), 100);
        refused(x, 6, 0, 0, 0, 0);
    }

    private static void learnts() {
        promise = 24;
        LettersLeaping x = new LettersLeaping();
        x.leaper(7);
        x.leaper(7);
        due("none tried", x.learnt(0), 50);
        x.tried(0, 1, 0);
        due("150 by 2", x.learnt(0), 75);
        x.tried(0, 1, 1);
        due("150 by 3", x.learnt(0), 50);
        x.tried(0, 4, 3);
        due("250 by 7, cut", x.learnt(0), 35);
        x.tried(1, 98, 0);
        due("9850 by 99", x.learnt(1), 99);
        x.tried(1, 99, 0);
        due("99 at most", x.learnt(1), 99);
        due("skill stays", x.leaperOf(1, 0), 7);
        due("no leaper", x.learnt(2), BAD);
        due("no leaper", x.learnt(-1), BAD);
        refused(x, 2, 0, 0, 0, 0);
    }

    private static void learns() {
        promise = 25;
        LettersLeaping x = new LettersLeaping();
        x.leaper(7);
        x.tried(0, 9, 9);
        due("learn", x.learn(0), 7);
        due("50 by 10", x.leaperOf(0, 0), 5);
        due("learn", x.learn(0), 5);
        due("leaps stay", x.leaperOf(0, 1), 9);
        due("no leaper", x.learn(1), BAD);
        due("no leaper", x.learn(-1), BAD);
        refused(x, 2, 0, 0, 0, 0);
    }

    private static void risks() {
        promise = 26;
        LettersLeaping x = new LettersLeaping();
        x.jetty(0, 0, 1, 50);
        x.jetty(0, 0, 1, 5);
        x.jetty(0, 0, 1, 81);
        x.jetty(0, 0, 30, 20);
        x.leaper(0);
        x.leaper(11);
        x.leaper(99);
        due("3 times 30", x.risk(0, 0, 0), 90);
        due("less 44", x.risk(1, 0, 0), 46);
        due("0 at least", x.risk(2, 0, 0), 0);
        due("3 times 15, below the deck", x.risk(0, 1, 0), 45);
        x.wet(0, true);
        due("and 40", x.risk(0, 0, 0), 130);
        x.wind(4, 9);
        due("and 180", x.risk(1, 0, 4), 266);
        due("another hour", x.risk(1, 0, 5), 86);
        due("out", x.risk(2, 2, 0), 1000);
        due("no time", x.risk(2, 3, 0), 1000);
        x.lake(1, 60);
        due("the deck at 5", x.risk(0, 0, 0), 175);
        x.lake(0, 50);
        due("50 lower", x.risk(0, 0, 0), 55);
        x.force(law(x, "high 9;wet 99;wind 99;skill 0"));
        due("45, 99 and 891 are too many", x.risk(2, 0, 4), 1000);
        due("45 and 99", x.risk(2, 0, 0), 144);
        due("no leaper", x.risk(3, 0, 0), BAD);
        due("no leaper", x.risk(-1, 0, 0), BAD);
        due("no jetty", x.risk(0, 4, 0), BAD);
        due("no jetty", x.risk(0, -1, 0), BAD);
        due("no hour", x.risk(0, 0, 12), BAD);
        due("no hour", x.risk(0, 0, -1), BAD);
        refused(x, 6, 0, 0, 0, 0);
    }

    private static void calms() {
        promise = 27;
        LettersLeaping x = new LettersLeaping();
        x.jetty(0, 0, 1, 50);
        x.leaper(0);
        due("the first of all", x.calm(0, 0), 0);
        for (int hour = 0; hour < 12; hour++) {
            x.wind(hour, 9 - hour / 2);
        }
        due("the first of two", x.calm(0, 0), 10);
        x.wind(11, 0);
        due("the last", x.calm(0, 0), 11);
        x.force(law(x, "high 0;skill 1"));
        x.leaper(99);
        due("the first without risk", x.calm(1, 0), 10);
        due("no leaper", x.calm(2, 0), BAD);
        due("no leaper", x.calm(-1, 0), BAD);
        due("no jetty", x.calm(0, 1), BAD);
        due("no jetty", x.calm(0, -1), BAD);
        refused(x, 4, 0, 0, 0, 0);
    }

    private static void legs() {
        promise = 28;
        LettersLeaping x = new LettersLeaping();
        due("none", x.leg(7, 7), 0);
        due("2 by 4, rounded up", x.leg(0, 1), 1);
        due("4 by 4", x.leg(0, 17), 1);
        due("6 by 4, rounded up", x.leg(0, 18), 2);
        due("rows and columns", x.leg(15, 240), 15);
        due("back", x.leg(240, 15), 15);
        due("one row on, far in columns", x.leg(15, 16), 8);
        due("the farthest", x.leg(0, 255), 15);
        x.force(law(x, "leg 9;speed 1"));
        due("slowly", x.leg(0, 255), 270);
        due("no spot", x.leg(-1, 0), BAD);
        due("no spot", x.leg(256, 0), BAD);
        due("no spot", x.leg(0, -1), BAD);
        due("no spot", x.leg(0, 256), BAD);
        refused(x, 4, 0, 0, 0, 0);
    }

    /** The wrong inputs of a round's calls, alike for all of them; ask: the call by shelf and n. */
    private interface Ask {
        int ask(LettersLeaping x, int s, int n);
    }

    private static void refusesRounds(Ask call) {
        LettersLeaping x = rounds();
        due("no shelf", call.ask(x, 8, 1), BAD);
        due("no shelf", call.ask(x, -1, 1), BAD);
        due("n above 20, of a jetty", call.ask(x, 2, 21), BAD);
        due("n below 0, of nothing", call.ask(x, 3, -1), BAD);
        due("a jetty", call.ask(x, 2, 1), OTHER);
        due("nothing", call.ask(x, 3, 1), NOTHING);
        due("fewer elements", call.ask(x, 0, 4), BAD);
        due("no jetty", call.ask(x, 1, 2), BAD);
        row(x, 1, 3, 0, 3);
        due("no jetty", call.ask(x, 1, 2), BAD);
        row(x, 1, 3, 0, -1);
        due("no jetty", call.ask(x, 1, 2), BAD);
        refused(x, 8, 1, 1, 0, 0);
    }

    private static void roundsTold() {
        promise = 29;
        LettersLeaping x = rounds();
        // comes in minutes 2, 4 (1 on) and 18 (13 on); risks 0, 30, 1000
        due("end", x.round(0, 0, 3, 1), 18);
        due("risk", x.round(0, 0, 3, 0), 1030);
        due("out", x.round(0, 0, 3, 2), 1);
        due("the first two", x.round(0, 0, 2, 1), 4);
        due("the first two", x.round(0, 0, 2, 0), 30);
        due("none", x.round(0, 0, 0, 0), 0);
        due("none", x.round(0, 0, 0, 1), 0);
        due("none", x.round(0, 0, 0, 2), 0);
        due("the jetties that are asked for alone", x.round(0, 1, 1, 1), 2);
        x.lake(2, 20);
        due("from another harbour", x.round(0, 0, 2, 1), 3);
        row(x, 4, 0, 2, 2, 0, 2);
        due("each time", x.round(0, 4, 4, 2), 3);
        due("the same again takes a minute", x.round(0, 4, 2, 1), x.round(0, 4, 1, 1) + 1);
        row(x, 5, 4, 1, 0);
        due("booleans tell jetties", x.round(0, 5, 2, 1), 2);
        hoursOfRounds();
        x = rounds();
        due("no leaper, of a jetty", x.round(2, 2, 0, 0), BAD);
        due("no leaper, of nothing", x.round(-1, 3, 0, 0), BAD);
        due("what, of a jetty", x.round(0, 2, 0, 3), BAD);
        due("what, of nothing", x.round(0, 3, 0, -1), BAD);
        refused(x, 4, 0, 0, 0, 0);
        refusesRounds((y, s, n) -> y.round(0, s, n, 0));
        refusesRounds((y, s, n) -> y.round(0, s, n, 2));
    }

    private static void hoursOfRounds() {
        LettersLeaping x = new LettersLeaping();
        x.force(law(x, "speed 1;leg 6"));
        x.jetty(5, 10, 1, 20);
        x.jetty(5, 0, 1, 20);
        x.leaper(0);
        for (int hour = 0; hour < 12; hour++) {
            x.wind(hour, hour < 10 ? hour : 9);
        }
        row(x, 0, 0, 0);
        due("minute 60 is of hour 1", x.round(0, 0, 1, 0), 20);
        x.lake(2, 255);
        x.wind(2, 0);
        x.wind(11, 2);
        row(x, 0, 0, 1, 0, 1, 0, 1, 0, 1, 0, 1, 0, 1);
        // 180, 241, 302, 363, 424, 485, 546, 607, 668, 729, 790
        due("end", x.round(0, 0, 11, 1), 790);
        due("hour 11 at most", x.round(0, 0, 11, 0), 20 * (3 + 4 + 5 + 6 + 7 + 8 + 9 + 9 + 2 + 2 + 2));
    }

    private static void bests() {
        promise = 30;
        LettersLeaping x = new LettersLeaping();
        x.jetty(0, 10, 1, 20);
        x.jetty(0, 5, 1, 20);
        x.jetty(0, 1, 1, 20);
        x.leaper(0);
        due("all without risk: the least end", x.best(0, 7, 999, 1), 1 + 1 + 2 + 1 + 3);
        due("its risk", x.best(0, 7, 999, 0), 0);
        due("its first", x.best(0, 7, 999, 10), 2);
        due("its second", x.best(0, 7, 999, 11), 1);
        due("its last", x.best(0, 7, 999, 12), 0);
        due("just by then", x.best(0, 7, 8, 0), 0);
        due("a minute earlier", x.best(0, 7, 7, 0), STUCK);
        due("none: its risk", x.best(0, 0, 0, 0), 0);
        due("none: its end", x.best(0, 0, 0, 1), 0);
        due("none: its first", x.best(0, 0, 0, 10), BAD);
        x.jetty(0, 1, 1, 20);
        due("the first by numbers", x.best(0, 12, 999, 10), 2);
        due("the first by numbers", x.best(0, 12, 999, 11), 3);
        due("no such place", x.best(0, 7, 999, 13), BAD);
        due("no such place", x.best(0, 7, 999, 9), BAD);
        due("no such place", x.best(0, 7, 999, 2), BAD);
        due("no such place", x.best(0, 7, 999, -1), BAD);
        due("no such place", x.best(0, 7, 999, Integer.MIN_VALUE), BAD);
        due("bad ahead of stuck", x.best(0, 7, 0, 13), BAD);
        due("no leaper", x.best(1, 7, 999, 0), BAD);
        due("no leaper", x.best(-1, 7, 999, 0), BAD);
        due("no jetty", x.best(0, 16, 999, 0), BAD);
        due("no jetty", x.best(0, Integer.MIN_VALUE, 999, 0), BAD);
        due("end", x.best(0, 7, 1000, 0), BAD);
        due("end", x.best(0, 7, -1, 0), BAD);
        refused(x, 13, 0, 0, 1, 0);
        bestByHours();
    }

    private static void bestByHours() {
        LettersLeaping x = new LettersLeaping();
        x.force(law(x, "speed 1;leg 6"));
        for (int i = 0; i < 7; i++) {
            x.jetty(5, i, 1, 20);
        }
        x.leaper(10);
        x.wind(0, 9);
        x.wet(6, true);
        due("six", x.best(0, 63, 999, 1) >= 35 ? 1 : 0, 1);
        due("seven", x.best(0, 127, 999, 0), BAD);
        x.jetty(5, 30, 1, 20);
        // 7 lies 15 far of spot 0: going there first, all later leaps are in calm hours
        due("the round about of least risk", x.best(0, 129, 999, 0), 0);
        due("the far one first", x.best(0, 129, 999, 10), 7);
        due("then the near one", x.best(0, 129, 999, 11), 0);
        due("the end of that", x.best(0, 129, 999, 1), 181);
        due("earlier with more risk", x.best(0, 129, 180, 0), 140);
        due("the near one first then", x.best(0, 129, 180, 10), 0);
        due("the end of that", x.best(0, 129, 180, 1), 91);
        due("no time for it", x.best(0, 129, 90, 0), STUCK);
    }

    private static void teams() {
        promise = 31;
        LettersLeaping x = new LettersLeaping();
        x.jetty(0, 0, 1, 50);
        x.jetty(0, 0, 1, 60);
        x.jetty(0, 0, 1, 30);
        due("none needs none", x.team(0, 1, 0, NONE), 0);
        due("no leapers", x.team(1, 6, 0, NONE), STUCK);
        due("bad ahead of stuck", x.team(1, 6, 0, 1), BAD);
        x.leaper(0);
        x.leaper(20);
        due("all to the better one", x.team(7, 3, 0, NONE), 10 + 40 + 0);
        due("of jetty 0", x.team(7, 3, 0, 0), 1);
        due("of jetty 2", x.team(7, 3, 0, 2), 1);
        due("two at most", x.team(7, 2, 0, NONE), 10 + 40 + 30);
        due("of jetty 0", x.team(7, 2, 0, 0), 1);
        due("of jetty 1", x.team(7, 2, 0, 1), 1);
        due("of jetty 2", x.team(7, 2, 0, 2), 0);
        due("one at most", x.team(3, 1, 0, NONE), 130);
        due("of several the first", x.team(3, 1, 0, 0), 0);
        due("of several the first", x.team(3, 1, 0, 1), 1);
        due("three for two", x.team(7, 1, 0, NONE), STUCK);
        x.wind(3, 1);
        due("another hour", x.team(7, 3, 3, NONE), 30 + 60 + 0);
        due("not of the set", x.team(3, 2, 0, 2), BAD);
        due("not of the set", x.team(3, 2, 0, -2), BAD);
        due("not of the set", x.team(3, 2, 0, 32), BAD);
        due("no jetty", x.team(8, 2, 0, NONE), BAD);
        due("no jetty", x.team(-1, 2, 0, NONE), BAD);
        due("hour", x.team(3, 2, 12, NONE), BAD);
        due("hour", x.team(3, 2, -1, NONE), BAD);
        due("m", x.team(3, 0, 0, NONE), BAD);
        due("m", x.team(3, 7, 0, NONE), BAD);
        for (int i = 3; i < 7; i++) {
            x.jetty(0, 0, 1, 50);
        }
        due("seven", x.team(127, 6, 0, NONE), BAD);
        due("six", x.team(63, 3, 0, NONE), 10 + 40 + 30 + 90 + 90 + 10);
        refused(x, 11, 0, 0, 2, 0);
        teamsByOneThousandth();
    }

    private static void teamsByOneThousandth() {
        LettersLeaping x = new LettersLeaping();
        x.force(law(x, "high 1;skill 1"));
        x.jetty(0, 0, 1, 50);
        x.jetty(0, 0, 1, 50);
        x.leaper(0);
        x.leaper(1);
        x.leaper(1);
        due("one less", x.team(1, 1, 0, NONE), 29);
        due("of several the first", x.team(1, 1, 0, 0), 1);
        due("two less", x.team(3, 1, 0, NONE), 58);
        due("of several the first", x.team(3, 1, 0, 0), 1);
        due("then the next one's", x.team(3, 1, 0, 1), 2);
    }

    private static void safests() {
        promise = 32;
        LettersLeaping x = new LettersLeaping();
        x.jetty(0, 0, 1, 30);
        due("no leapers", x.safest(0, 0), STUCK);
        due("bad ahead of stuck", x.safest(1, 0), BAD);
        due("bad ahead of stuck", x.safest(0, 12), BAD);
        x.leaper(1);
        x.leaper(8);
        x.leaper(99);
        x.leaper(7);
        due("the first without risk", x.safest(0, 0), 1);
        x.wind(2, 9);
        due("the best", x.safest(0, 2), 2);
        x.lake(0, -50);
        due("3 times 60 less 32", x.risk(1, 0, 0), 148);
        x.lake(1, 60);
        due("out for all: the first", x.safest(0, 0), 0);
        due("no jetty", x.safest(-1, 0), BAD);
        due("no hour", x.safest(0, -1), BAD);
        refused(x, 4, 0, 0, 1, 0);
    }

    private static void misseds() {
        promise = 33;
        LettersLeaping x = rounds();
        due("end", x.missed(0, 0, 3, 0, 0), 18 + 12);
        due("end", x.missed(0, 0, 3, 1, 0), 18 + 12);
        due("at the last it stays", x.missed(0, 0, 3, 2, 0), 18);
        due("risk", x.missed(0, 0, 3, 0, 1), 1030);
        due("later", x.missed(0, 0, 3, 0, 2), 0);
        x.force(law(x, "speed 1;leg 9"));
        due("speed 1: 3 minutes", x.missed(0, 0, 3, 0, 0), x.round(0, 0, 3, 1) + 3);
        x.lake(2, 25);
        // harbour 25 (row 1, column 9) is 6 far of jetty 0
        row(x, 4, 2, 0, 0, 0, 0, 0, 0, 0);
        // 54 .. 60: all but the last in hour 0; with a miss at 2: 54, 55, 56, 60 ..
        due("without", x.round(0, 4, 7, 1), 60);
        due("later hours, each time", x.missed(0, 4, 7, 2, 2), 3);
        due("later hours", x.missed(0, 4, 7, 5, 2), 0);
        x.wind(1, 5);
        x.wind(0, 1);
        due("risk without", x.round(0, 4, 7, 0), 6 * 20 + 100);
        due("risk", x.missed(0, 4, 7, 2, 1), 3 * 20 + 4 * 100);
        x = rounds();
        due("no leaper, of a jetty", x.missed(2, 2, 3, 0, 0), BAD);
        due("no leaper, of nothing", x.missed(-1, 3, 3, 0, 0), BAD);
        due("place, of a jetty", x.missed(0, 2, 3, 3, 0), BAD);
        due("place, of nothing", x.missed(0, 3, 3, -1, 0), BAD);
        due("no places", x.missed(0, 0, 0, 0, 0), BAD);
        due("what, of a jetty", x.missed(0, 2, 3, 0, 3), BAD);
        due("what, of nothing", x.missed(0, 3, 3, 0, -1), BAD);
        refused(x, 7, 0, 0, 0, 0);
        refusesRounds((y, s, n) -> y.missed(0, s, n, 0, 0));
        hourElevenStays();
    }

    private static void hourElevenStays() {
        LettersLeaping x = new LettersLeaping();
        x.force(law(x, "speed 1;leg 9"));
        x.jetty(5, 255, 1, 20);
        x.jetty(5, 0, 1, 20);
        x.leaper(0);
        row(x, 0, 0, 0, 1, 0, 0);
        // 270, 541, 812, 813: the last two are in hour 11 anyway
        due("end", x.round(0, 0, 4, 1), 813);
        due("no later hours", x.missed(0, 0, 4, 2, 2), 0);
    }

    private static void pilots() {
        promise = 34;
        LettersLeaping x = rounds();
        // the first is 4 far: 8 minutes by speed 1
        due("no jetties", x.pilot(0, 0, 0), 1);
        due("slowest", x.pilot(0, 1, 8), 1);
        due("8 by 2", x.pilot(0, 1, 7), 2);
        due("8 by 3, rounded up", x.pilot(0, 1, 3), 3);
        due("8 by 8", x.pilot(0, 1, 1), 8);
        due("none", x.pilot(0, 1, 0), NONE);
        row(x, 4, 0, 1);
        x.force(law(x, "leg 9"));
        due("45 by 9", x.pilot(4, 1, 5), 9);
        x.force(NONE);
        due("the law's speed stays", x.leg(0, 4), 2);
        x.force(law(x, "leg 1;speed 9"));
        due("by the law's legs", x.pilot(0, 1, 3), 2);
        x.lake(2, 4);
        due("at the harbour", x.pilot(0, 1, 0), 1);
        due("999", x.pilot(0, 3, 999), 1);
        due("end, of a jetty", x.pilot(2, 1, 1000), BAD);
        due("end, of nothing", x.pilot(3, 1, -1), BAD);
        refused(x, 2, 0, 0, 0, 0);
        refusesRounds((y, s, n) -> y.pilot(s, n, 5));
    }

    private static void stills() {
        promise = 35;
        LettersLeaping x = rounds();
        due("no jetties", x.still(0, 0), 9);
        due("1 and 3 by 9", x.still(0, 1), 9);
        x.jetty(0, 0, 17, 20);
        x.jetty(0, 0, 30, 20);
        row(x, 4, 2, 0, 3, 0);
        due("10 of 40 by 4", x.still(4, 3), 4);
        row(x, 4, 2, 4, 3, 0);
        due("15 of 40 by 2", x.still(4, 3), 2);
        due("of the first alone", x.still(4, 1), 2);
        x.force(law(x, "boat 14;speed 9"));
        due("none", x.still(4, 1), NONE);
        x.force(law(x, "boat 15;speed 9"));
        due("just", x.still(4, 1), 1);
        due("nothing refused", x.status(12), 0);
        refusesRounds((y, s, n) -> y.still(s, n));
    }

    private static void firstOuts() {
        promise = 36;
        LettersLeaping x = new LettersLeaping();
        due("no jetties", x.firstOut(1), NONE);
        x.jetty(3, 0, 1, 50);
        due("a raft never is", x.firstOut(20), NONE);
        x.jetty(0, 0, 1, 60);
        x.jetty(0, 0, 1, 61);
        x.jetty(0, 0, 1, 61);
        due("two in week 20", x.firstOut(1), 2);
        due("two in week 1, another one later", x.firstOut(20), 2);
        due("three in week 3", x.firstOut(7), 1);
        x.lake(0, 20);
        due("not by 20", x.firstOut(1), NONE);
        x.jetty(0, 0, 1, 99);
        due("the last", x.firstOut(20), 4);
        due("v", x.firstOut(0), BAD);
        due("v", x.firstOut(21), BAD);
        refused(x, 2, 0, 0, 0, 0);
    }

    private static void lifts() {
        promise = 37;
        LettersLeaping x = rounds();
        row(x, 4, 0, 0, 1, 2, 1, 2, 0);
        row(x, 5, 3, 1, 0, 2);
        due("3, 2, 0", x.lifts(4, 6, 5, 3), 5);
        due("the bag stays", x.element(4, 1), 1);
        due("one jetty", x.lifts(4, 6, 5, 1), 3);
        due("no jetties", x.lifts(4, 6, 5, 0), 0);
        due("no letters", x.lifts(4, 0, 5, 3), 0);
        due("the lower four", x.lifts(4, 4, 5, 3), 1 + 1);
        row(x, 6, 0, 2, 2, 0);
        due("nothing left for the second time", x.lifts(4, 6, 6, 2), 2);
        due("and for the others", x.lifts(4, 6, 6, 3), 2 + 2);
        due("the same row for both", x.lifts(5, 3, 5, 3), 2 + 1);
        x.row(7, 0, 40);
        x.set(7, 0, 1);
        due("39 above", x.lifts(7, 40, 5, 1), 39);
        due("no letter of 40", x.lifts(7, 40, 6, 2), 0);
        x = rounds();
        row(x, 4, 1, 0, 0);
        due("no shelf, of a jetty", x.lifts(8, 0, 2, 0), BAD);
        due("no shelf, of a jetty", x.lifts(2, 0, -1, 0), BAD);
        due("n, of a jetty", x.lifts(2, 41, 2, 0), BAD);
        due("n, of a jetty", x.lifts(2, -1, 2, 0), BAD);
        due("k, of nothing", x.lifts(3, 0, 3, 21), BAD);
        due("k, of nothing", x.lifts(3, 0, 3, -1), BAD);
        due("a jetty, nothing", x.lifts(2, 0, 3, 0), OTHER);
        due("nothing, a jetty", x.lifts(3, 0, 2, 0), OTHER);
        due("a row, nothing", x.lifts(0, 9, 3, 0), NOTHING);
        due("nothing, a row", x.lifts(3, 9, 0, 9), NOTHING);
        due("fewer", x.lifts(0, 4, 4, 0), BAD);
        due("fewer", x.lifts(0, 3, 4, 3), BAD);
        due("no jetty", x.lifts(1, 2, 4, 2), BAD);
        due("no jetty", x.lifts(0, 3, 1, 2), BAD);
        due("no jetty further on", x.lifts(0, 3, 1, 1), 2);
        refused(x, 10, 2, 2, 0, 0);
    }

    private static void parcels() {
        promise = 38;
        LettersLeaping x = kinds();
        due("parcel", x.parcel(0, 1, 1), 0);
        due("parcel", x.parcel(5, 60, 99), 1);
        due("no jetty", x.parcel(6, 1, 1), BAD);
        due("no jetty", x.parcel(-1, 1, 1), BAD);
        due("minutes", x.parcel(0, 0, 1), BAD);
        due("minutes", x.parcel(0, 61, 1), BAD);
        due("worth", x.parcel(0, 1, 0), BAD);
        due("worth", x.parcel(0, 1, 100), BAD);
        for (int i = 2; i < 10; i++) {
            due("parcel", x.parcel(0, 1, 1), i);
        }
        due("bad ahead of full", x.parcel(0, 1, 100), BAD);
        due("full", x.parcel(0, 1, 1), FULL);
        due("status(3)", x.status(3), 10);
        refused(x, 7, 0, 0, 0, 1);
    }

    private static void stops() {
        promise = 39;
        LettersLeaping x = kinds();
        due("no parcels", x.stops(600), 0);
        x.parcel(0, 20, 9);
        x.parcel(0, 30, 10);
        x.parcel(0, 10, 3);
        x.parcel(0, 20, 9);
        due("none", x.stops(9), 0);
        due("one", x.stops(10), 4);
        due("of two the least", x.stops(20), 1);
        due("12 for 30", x.stops(30), 5);
        due("18 for 40", x.stops(40), 9);
        due("21 for 50", x.stops(50), 13);
        due("all", x.stops(80), 15);
        due("all", x.stops(600), 15);
        due("one minute less", x.stops(79), 11);
        due("0", x.stops(0), 0);
        due("minutes", x.stops(-1), BAD);
        due("minutes", x.stops(601), BAD);
        refused(x, 2, 0, 0, 0, 0);
        x = kinds();
        for (int i = 0; i < 10; i++) {
            x.parcel(i % 6, 60, 99);
        }
        due("ten", x.stops(600), 1023);
        due("nine", x.stops(599), 511);
    }

    private static void weeks() {
        promise = 40;
        LettersLeaping x = new LettersLeaping();
        x.jetty(0, 0, 1, 60);
        x.jetty(0, 0, 1, 61);
        x.jetty(1, 0, 1, 60);
        x.jetty(2, 0, 1, 0);
        x.jetty(3, 0, 1, 99);
        x.jetty(4, 0, 1, 99);
        due("80 is not out, 81 were", x.week(0, 1), NONE);
        due("in the last week", x.week(1, 1), 20);
        due("3 weeks of 10", x.week(0, 10), 3);
        due("a pier", x.week(2, 20), 2);
        due("a stair", x.week(3, 20), 5);
        due("a high raft now", x.week(4, 1), 0);
        due("a float never", x.week(5, 20), NONE);
        x.lake(0, -50);
        due("below -50", x.week(3, 20), 3);
        due("now", x.week(0, 1), 0);
        x.lake(0, 50);
        x.jetty(0, 0, 1, 0);
        due("too low now", x.week(6, 1), 0);
        due("no jetty", x.week(7, 1), BAD);
        due("no jetty", x.week(-1, 1), BAD);
        due("v", x.week(0, 0), BAD);
        due("v", x.week(0, 21), BAD);
        refused(x, 4, 0, 0, 0, 0);
    }

    private static void outs() {
        promise = 41;
        LettersLeaping x = new LettersLeaping();
        due("no jetties", x.outs(20, 20), 0);
        x.jetty(0, 0, 1, 60);
        x.jetty(0, 0, 1, 61);
        x.jetty(3, 0, 1, 99);
        x.jetty(4, 0, 1, 99);
        due("now", x.outs(0, 20), 4);
        due("in week 20", x.outs(20, 1), 6);
        due("in week 1", x.outs(1, 10), 4);
        due("in week 2", x.outs(2, 10), 6);
        due("in week 3", x.outs(3, 10), 7);
        x.lake(0, 50);
        x.jetty(0, 0, 1, 9);
        due("too low now", x.outs(0, 1), 20);
        due("no more in a week", x.outs(1, 1), 4);
        due("week", x.outs(-1, 1), BAD);
        due("week", x.outs(21, 1), BAD);
        due("v", x.outs(0, 0), BAD);
        due("v", x.outs(0, 21), BAD);
        refused(x, 4, 0, 0, 0, 0);
    }

    private static void seeds() {
        promise = 42;
        LettersLeaping x = new LettersLeaping();
        due("at first", x.seed(7), 1);
        due("then", x.seed(Integer.MIN_VALUE), 7);
        due("status(5)", x.status(5), Integer.MIN_VALUE);
        due("any", x.seed(0), Integer.MIN_VALUE);
    }

    private static void begins() {
        promise = 43;
        LettersLeaping x = rounds();
        due("begin", x.begin(1, 0, 3), 3);
        due("leaper", x.under(0), 1);
        x.step();
        due("another", x.begin(0, 0, 2), 2);
        due("leaper", x.under(0), 0);
        due("none done", x.under(1), 0);
        due("it begins in minute 0", x.under(2), 0);
        due("refused", x.begin(2, 0, 2), BAD);
        due("the other stays", x.under(0), 0);
        due("none", x.begin(1, 0, 0), 0);
        due("at its end", x.step(), STUCK);
        due("leaper", x.under(0), 1);
        due("no leaper, of a jetty", x.begin(-1, 2, 0), BAD);
        due("no leaper, of nothing", x.begin(2, 3, 0), BAD);
        refused(x, 3, 0, 0, 1, 0);
        refusesRounds((y, s, n) -> y.begin(0, s, n));
        keepsItsRowAndHarbour();
    }

    private static void keepsItsRowAndHarbour() {
        LettersLeaping x = rounds();
        x.begin(0, 0, 3);
        x.lake(2, 255);
        row(x, 0, 2, 2, 2, 2);
        x.row(0, 0, 0);
        x.step();
        due("from the harbour as it was", x.under(2), 3);
        x.step();
        due("to the jetty as it was", x.under(2), 5);
        x.begin(0, 0, 0);
        x.step();
        due("of the row as it is", x.under(1), 0);
    }

    /** The draw below 1000 that a seed gives next. */
    private static int draw(int seed) {
        return (seed * 1103515245 + 12345 >>> 16) % 1000;
    }

    /** A seed whose next draw is a told one. */
    private static int seedFor(int wanted) {
        for (int seed = 0; seed < 1000000; seed++) {
            if (draw(seed) == wanted) {
                return seed;
            }
        }
        return 0;
    }

    private static void steps() {
        promise = 44;
        LettersLeaping x = new LettersLeaping();
        x.jetty(0, 4, 1, 75);
        x.leaper(0);
        row(x, 0, 2, 0, 0, 0, 0, 0, 0);
        due("none begun", x.step(), STUCK);
        x.begin(0, 0, 6);
        due("3 times 55", x.risk(0, 0, 0), 165);
        int[] draws = {15, 16, 164, 165, 0, 999};
        int[] want = {2, 1, 1, 0, 2, 0};
        int[] goesOn = {2 + 1 + 12, 16, 17, 18, 19 + 12, 32};
        int[] drops = {0, 1, 2, 2, 2, 2};
        int[] misses = {1, 1, 1, 1, 2, 2};
        for (int i = 0; i < 6; i++) {
            int seed = seedFor(draws[i]);
            x.seed(seed);
            due("a draw of " + draws[i], x.step(), want[i]);
            due("seed", x.status(5), seed * 1103515245 + 12345);
            due("done", x.under(1), i + 1);
            due("goes on", x.under(2), goesOn[i]);
            due("drops", x.under(3), drops[i]);
            due("misses", x.under(4), misses[i]);
            due("leaps", x.leaperOf(0, 1), i + 1);
            due("drops in all", x.leaperOf(0, 2), drops[i] + misses[i]);
        }
        due("at its end", x.step(), STUCK);
        due("no draw then", x.status(5), seedFor(999) * 1103515245 + 12345);
        refused(x, 0, 0, 0, 2, 0);
        allElseAsAtEachStep();
        upperBitsHaveNoSign();
    }

    private static void allElseAsAtEachStep() {
        LettersLeaping x = new LettersLeaping();
        x.jetty(0, 4, 1, 20);
        x.jetty(0, 84, 1, 20);
        x.leaper(0);
        row(x, 0, 2, 0, 1, 0, 1);
        x.begin(0, 0, 4);
        x.seed(seedFor(30));
        due("no risk", x.step(), 0);
        x.wet(1, true);
        x.seed(seedFor(30));
        due("wet", x.step(), 1);
        due("2 and 1, 3 and 1", x.under(2), 7);
        x.force(law(x, "speed 1;leg 9"));
        x.wind(0, 0);
        x.wind(1, 8);
        x.seed(seedFor(30));
        due("45 minutes on", x.step(), 0);
        due("52 and 1", x.under(2), 53);
        x.seed(seedFor(19));
        due("wet and wind of hour 1", x.step(), 2);
        due("98, 1 and 3", x.under(2), 102);
    }

    private static void upperBitsHaveNoSign() {
        LettersLeaping x = new LettersLeaping();
        x.jetty(0, 4, 1, 20);
        x.jetty(0, 4, 1, 80);
        x.leaper(0);
        row(x, 0, 2, 0);
        int seed = 2;
        while (seed * 1103515245 + 12345 >= 0) {
            seed++;
        }
        x.begin(0, 0, 1);
        x.seed(seed);
        due("no risk, a seed below 0", x.step(), 0);
    }

    private static void unders() {
        promise = 45;
        LettersLeaping x = rounds();
        due("bad ahead of stuck", x.under(5), BAD);
        due("bad ahead of stuck", x.under(-1), BAD);
        for (int what = 0; what < 5; what++) {
            due("none begun", x.under(what), STUCK);
        }
        x.begin(1, 0, 1);
        int[] atFirst = {1, 0, 0, 0, 0};
        for (int what = 0; what < 5; what++) {
            due("under(" + what + ")", x.under(what), atFirst[what]);
        }
        x.step();
        due("at its end", x.under(1), 1);
        due("at its end", x.under(2), 3);
        due("no such thing", x.under(5), BAD);
        refused(x, 3, 0, 0, 5, 0);
    }

    /** All that can be asked without changing anything, of jetties 0 to 3, in one number. */
    private static long all(LettersLeaping x) {
        long sum = 0;
        for (int what = 0; what <= 8; what++) {
            sum = 31 * sum + (what == 4 || what == 6 ? 0 : x.status(what));
        }
        for (int jetty = 0; jetty < x.status(0); jetty++) {
            for (int what = 0; what < 8; what++) {
                sum = 31 * sum + x.jettyOf(jetty, what);
            }
            for (int hour = 0; hour < 12; hour++) {
                sum = 31 * sum + x.risk(0, jetty, hour);
            }
        }
        for (int law = 0; law < x.status(1); law++) {
            for (int what = 0; what < 9; what++) {
                sum = 31 * sum + x.lawOf(law, what);
            }
        }
        for (int what = 0; what < 3; what++) {
            sum = 31 * sum + x.leaperOf(0, what);
        }
        for (int what = 0; what < 5; what++) {
            sum = 31 * sum + x.under(what);
        }
        return 31 * sum + x.stops(100);
    }

    private static LettersLeaping kept() {
        LettersLeaping x = rounds();
        law(x, "leg 3;high 4");
        law(x, "leg 4");
        x.force(0);
        x.wind(0, 3);
        x.parcel(0, 10, 10);
        x.lake(0, 5);
        x.lake(1, 8);
        x.lake(2, 17);
        x.wet(1, true);
        x.tried(0, 5, 2);
        x.seed(99);
        x.begin(0, 0, 3);
        x.step();
        return x;
    }

    private static void changeAll(LettersLeaping x) {
        x.jetty(2, 9, 2, 30);
        x.wet(1, false);
        x.wet(0, true);
        law(x, "leg 9;speed 8");
        x.force(2);
        x.wind(0, 9);
        x.wind(11, 9);
        x.parcel(1, 60, 99);
        x.lake(0, -7);
        x.lake(1, 60);
        x.lake(2, 200);
        x.tried(0, 50, 20);
        x.learn(0);
        x.leaper(50);
        x.step();
        x.begin(1, 0, 2);
        x.step();
        x.seed(1234);
    }

    private static void images() {
        promise = 46;
        LettersLeaping x = kept();
        long was = all(x);
        due("image", x.image(), 1);
        due("nothing changes", all(x), was);
        changeAll(x);
        due("changed", all(x) == was ? 1 : 0, 0);
        x.back();
        due("as it was", all(x), was);
        due("the law in force", x.force(1), 0);
        x.image();
        due("kept anew", x.back(), 1);
        due("the new one", x.force(0), 1);
        x = kept();
        x.image();
        write(x, "leg");
        x.row(6, 2, 5);
        x.row(9, 0, 0);
        x.image();
        x.back();
        due("the tape isn't kept", x.status(4), 3);
        due("shelves aren't kept", x.status(6), 4);
        due("refusals aren't kept", x.status(12), 1);
    }

    private static void backs() {
        promise = 47;
        LettersLeaping x = kept();
        due("nothing was kept", x.back(), STUCK);
        x.image();
        long was = all(x);
        changeAll(x);
        x.show(4, 3);
        x.show(5, 2);
        x.row(0, 4, 2);
        write(x, "leg 7");
        x.wind(12, 0);
        due("back", x.back(), 1);
        due("as it was", all(x), was);
        due("a jetty that is no more", x.holds(4), NONE);
        due("one that is still", x.holds(5), 12);
        due("a row", x.holds(0), 4);
        due("shelves", x.status(6), 4);
        due("the tape stays", x.law(), 2);
        refused(x, 1, 0, 0, 1, 0);
        changeAll(x);
        due("again", x.back(), 1);
        due("as it was", all(x), was);
        due("the round goes on", x.step() >= 0 ? 1 : 0, 1);
        due("the next number", x.jetty(0, 0, 1, 0), 3);
        due("it is on no shelf", x.holds(4), NONE);
        x.back();
        x.seed(5);
        int first = x.step();
        int second = x.step();
        due("at its end", x.step(), STUCK);
        x.back();
        x.seed(5);
        due("the same again", x.step(), first);
        due("the same again", x.step(), second);
        newOnesAreNew(x);
        keepsDropsAndMisses();
        LettersLeaping y = rounds();
        y.image();
        y.begin(0, 0, 3);
        y.back();
        due("none was begun", y.under(0), STUCK);
        due("none was begun", y.step(), STUCK);
    }

    /** What comes again under a number that was given back has nothing of the one ahead. */
    private static void newOnesAreNew(LettersLeaping x) {
        x.jetty(5, 0, 1, 0);
        x.wet(3, true);
        x.leaper(9);
        x.tried(2, 9, 9);
        x.parcel(0, 1, 99);
        x.back();
        x.jetty(0, 7, 2, 3);
        due("dry", x.jettyOf(3, 5), 0);
        due("its kind", x.jettyOf(3, 0), 0);
        x.leaper(8);
        due("its skill", x.leaperOf(2, 0), 8);
        due("no leaps", x.leaperOf(2, 1), 0);
        due("no drops", x.leaperOf(2, 2), 0);
        x.parcel(0, 60, 1);
        due("its minutes", x.stops(10), 1);
    }

    private static void keepsDropsAndMisses() {
        LettersLeaping x = rounds();
        row(x, 0, 2, 2, 2, 2, 0);
        x.begin(1, 0, 4);
        x.seed(seedFor(0));
        x.step();
        x.seed(seedFor(500));
        x.step();
        x.image();
        x.seed(seedFor(0));
        x.step();
        x.back();
        due("goes on", x.under(2), 15 + 1 + 12 + 1);
        due("drops", x.under(3), 1);
        due("misses", x.under(4), 1);
        x.seed(seedFor(500));
        x.step();
        x.begin(0, 0, 1);
        due("none of the one given up", x.under(3), 0);
        due("none of the one given up", x.under(4), 0);
        x.back();
        due("the leaper that was", x.under(0), 1);
        x.step();
        x.step();
        due("all its jetties", x.step(), STUCK);
        due("four", x.under(1), 4);
    }

    private static void statuses() {
        promise = 48;
        LettersLeaping x = kept();
        write(x, "abc");
        int[] want = {3, 2, 2, 1, 3, 99 * 1103515245 + 12345, 3, 8, 17, NONE, NONE, NONE, 0, 0, 0, 0, 0, NONE};
        for (int what = 0; what < want.length; what++) {
            due("status(" + what + ")", x.status(what), want[what]);
        }
        due("another", x.status(-1), NONE);
        due("another", x.status(Integer.MIN_VALUE), NONE);
        due("another", x.status(Integer.MAX_VALUE), NONE);
        x.row(4, 0, 0);
        due("a row of 0 is something", x.status(6), 4);
        x.show(4, NONE);
        due("shelves", x.status(6), 3);
        x.row(9, 0, 0);
        x.rise(9, 0);
        x.law();
        x.set(2, 0, 0);
        x.set(3, 0, 0);
        x.set(3, 0, 0);
        x.back();
        for (int i = 0; i < 10; i++) {
            x.parcel(0, 1, 1);
        }
        refused(x, 3, 1, 2, 1, 1);
    }
}
