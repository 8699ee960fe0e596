import java.util.ArrayList;
import java.util.List;

/**
 * Every refused call of the document: what it answers, that it is counted once, and that nothing
 * else changes. For that, two lakes are built alike, one gets the refused call, and then both are
 * asked for all that can be asked. Quotes are the document's words (RulesTest looks them up).
 */
public final class RefusalTest {
    private static final int BAD = -2;
    private static final int OTHER = -3;
    private static final int NOTHING = -4;
    private static final int STUCK = -5;
    private static final int FULL = -6;
    private static final int NONE = LettersLeaping.NONE;
    private static final int MIN = Integer.MIN_VALUE;
    private static final int MAX = Integer.MAX_VALUE;

    /** What the full lake has: jetties, leapers and laws 0 to these; its shelves by what they hold. */
    private static final int LAST_JETTY = 6;
    private static final int LAST_LEAPER = 2;
    private static final int LAST_LAW = 2;
    private static final int LEVEL = -3;
    private static final int ROUND = 0;
    private static final int NO_ROUND = 1;
    private static final int A_JETTY = 2;
    private static final int EMPTY = 3;
    private static final int NO_BYTES = 4;
    private static final int BOOLEANS = 5;
    private static final int SHORTS = 7;

    private static int wrong = 0;
    private static int checked = 0;
    private static int promise = 0;
    private static String quote = "";

    private interface Build {
        LettersLeaping build();
    }

    private interface Call {
        long of(LettersLeaping x);
    }

    private interface CallWith {
        long of(LettersLeaping x, int v);
    }

    /** Which sentence is tested from here on; promise 0 stands for the terms. */
    private static void of(int number, String words) {
        promise = number;
        quote = words;
    }

    private static void due(String what, long got, long want) {
        checked++;
        if (got != want) {
            wrong++;
            System.out.println("promise " + promise + " \"" + quote + "\": " + what + " is " + got + ", due is " + want);
        }
    }

    // ---- lakes ----

    private static void write(LettersLeaping x, String text) {
        for (int i = 0; i < text.length(); i++) {
            x.feed(text.charAt(i), 1);
        }
    }

    private static int law(LettersLeaping x, String text) {
        write(x, text);
        return x.law();
    }

    private static void row(LettersLeaping x, int s, int sort, long... values) {
        x.row(s, sort, values.length);
        for (int i = 0; i < values.length; i++) {
            x.set(s, i, values[i]);
        }
    }

    /** Something of everything, a round under way, and an image of an earlier time. */
    private static LettersLeaping lake() {
        LettersLeaping x = new LettersLeaping();
        x.jetty(0, 3, 8, 30);
        x.jetty(1, 35, 3, 45);
        x.jetty(2, 80, 2, 20);
        x.jetty(3, 18, 10, 25);
        x.jetty(4, 66, 5, 61);
        x.jetty(5, 7, 30, 90);
        x.leaper(40);
        x.leaper(10);
        law(x, "leg3;high4");
        law(x, "wet 9");
        x.force(0);
        x.wind(0, 3);
        x.wind(11, 5);
        x.parcel(0, 20, 9);
        x.parcel(5, 30, 10);
        x.lake(0, 5);
        x.lake(1, 8);
        x.lake(2, 17);
        x.wet(1, true);
        x.tried(0, 5, 2);
        x.seed(99);
        row(x, ROUND, 2, 0, 3, 1, 4);
        x.begin(0, ROUND, 4);
        x.step();
        x.image();
        changeAll(x);
        return x;
    }

    private static void changeAll(LettersLeaping x) {
        x.jetty(0, 200, 2, 25);
        x.leaper(77);
        law(x, "pace 7");
        x.force(2);
        x.wind(0, 6);
        x.wind(5, 1);
        x.parcel(6, 10, 3);
        x.lake(0, LEVEL);
        x.lake(1, 21);
        x.lake(2, 33);
        x.wet(2, true);
        x.tried(1, 9, 3);
        x.seed(1234);
        row(x, NO_ROUND, 3, 0, LAST_JETTY + 1, -1, 1L << 32);
        x.show(A_JETTY, 1);
        x.row(NO_BYTES, 0, 0);
        row(x, BOOLEANS, 4, 1, 0);
        x.show(6, LAST_JETTY);
        x.row(SHORTS, 1, 40);
        x.begin(1, ROUND, 3);
        x.step();
        write(x, "skill 7");
    }

    private static LettersLeaping fullLake(int jetties, int leapers, int laws, int parcels) {
        LettersLeaping x = new LettersLeaping();
        for (int i = 0; i < jetties; i++) {
            x.jetty(i % 6, i, 1 + i, 20 + i);
        }
        for (int i = 0; i < leapers; i++) {
            x.leaper(i);
        }
        for (int i = 0; i < laws; i++) {
            law(x, "leg 1");
        }
        for (int i = 0; i < parcels; i++) {
            x.parcel(0, 1 + i, 10 - i);
        }
        write(x, "wet 5");
        x.lake(0, LEVEL);
        return x;
    }

    /** A tape of so many bytes, a blank at a time where four at once would be too many. */
    private static LettersLeaping withTape(int size) {
        LettersLeaping x = new LettersLeaping();
        for (int i = 0; i + 4 <= size; i += 4) {
            x.feed(i == 0 ? 0x6C656739 : 0x20202020, 4);
        }
        for (int i = 0; i < size % 4; i++) {
            x.feed(' ', 1);
        }
        return x;
    }

    // ---- all that can be asked ----

    private static void askShelves(LettersLeaping x, List<Long> into) {
        for (int s = 0; s < 8; s++) {
            into.add((long) x.holds(s));
            for (int i = 0; i < 5; i++) {
                into.add(x.element(s, i));
            }
        }
        into.add(x.element(SHORTS, 39));
        into.add(x.element(SHORTS, 40));
    }

    private static void askLake(LettersLeaping x, List<Long> into) {
        for (int what = 0; what <= 8; what++) {
            into.add((long) x.status(what));
        }
        for (int jetty = 0; jetty < x.status(0); jetty++) {
            for (int what : new int[] {0, 1, 2, 3, 5}) {
                into.add((long) x.jettyOf(jetty, what));
            }
        }
        for (int law = 0; law < x.status(1); law++) {
            for (int what = 0; what < 9; what++) {
                into.add((long) x.lawOf(law, what));
            }
        }
        for (int leaper = 0; leaper < x.status(2); leaper++) {
            for (int what = 0; what < 3; what++) {
                into.add((long) x.leaperOf(leaper, what));
            }
        }
        into.add((long) x.stops(25));
        into.add((long) x.stops(600));
        askWeather(x, into);
        for (int what = 0; what < 5; what++) {
            into.add((long) x.under(what));
        }
    }

    /** Some of it is told by changing it only, so it is put back. */
    private static void askWeather(LettersLeaping x, List<Long> into) {
        for (int hour = 0; hour < 12; hour++) {
            int wind = x.wind(hour, 0);
            x.wind(hour, wind);
            into.add((long) wind);
        }
        int forced = x.force(NONE);
        x.force(forced);
        into.add((long) forced);
        into.add((long) x.outs(0, 1));
        into.add((long) x.lake(0, LEVEL));
    }

    private static void askRound(LettersLeaping x, List<Long> into) {
        for (int i = 0; i < 4; i++) {
            into.add((long) x.step());
            into.add((long) x.under(2));
            into.add((long) x.status(5));
        }
    }

    private static List<Long> askAll(LettersLeaping x) {
        List<Long> answers = new ArrayList<>();
        askShelves(x, answers);
        askLake(x, answers);
        askRound(x, answers);
        int law = x.law();
        answers.add((long) law);
        for (int what = 0; what < 9; what++) {
            answers.add((long) x.lawOf(law, what));
        }
        answers.add((long) x.back());
        askLake(x, answers);
        askRound(x, answers);
        return answers;
    }

    private static int[] refusals(LettersLeaping x) {
        int[] counts = new int[5];
        for (int i = 0; i < 5; i++) {
            counts[i] = x.status(12 + i);
        }
        return counts;
    }

    // ---- what is due ----

    private static void refuses(Build lakes, long answer, int code, String text, Call call) {
        LettersLeaping x = lakes.build();
        LettersLeaping y = lakes.build();
        due(text, call.of(x), answer);
        int[] counts = refusals(x);
        int[] before = refusals(y);
        for (int i = 0; i < 5; i++) {
            due(text + ": status(" + (12 + i) + ") ahead " + before[i] + ", and then", counts[i],
                    before[i] + (code == -2 - i ? 1 : 0));
        }
        due(text + ": what else changed", askAll(x).equals(askAll(y)) ? 0 : 1, 0);
    }

    private static void refuses(int code, String text, Call call) {
        refuses(RefusalTest::lake, code, code, text, call);
    }

    private static void accepts(Build lakes, String text, Call call) {
        LettersLeaping x = lakes.build();
        int[] before = refusals(x);
        long answer = call.of(x);
        int[] counts = refusals(x);
        for (int i = 0; i < 5; i++) {
            due(text + " answered " + answer + ": status(" + (12 + i) + ")", counts[i], before[i]);
        }
    }

    private static void accepts(String text, Call call) {
        accepts(RefusalTest::lake, text, call);
    }

    /** BAD below and above what may be; the call's text has a # where the number stands. */
    private static void outside(int least, int most, String text, CallWith call) {
        for (int v : new int[] {least - 1, most + 1, MIN, MAX}) {
            refuses(BAD, text.replace("#", "" + v), x -> call.of(x, v));
        }
    }

    private static void bounds(int least, int most, String text, CallWith call) {
        outside(least, most, text, call);
        accepts(text.replace("#", "" + least), x -> call.of(x, least));
        accepts(text.replace("#", "" + most), x -> call.of(x, most));
    }

    public static void main(String[] args) {
        noObjectTellsMoreThanItsCalls();
        rows();
        sets();
        copies();
        neverRefused();
        shows();
        says();
        jetties();
        lakes();
        tapes();
        laws();
        leapers();
        leaps();
        rounds();
        bests();
        teams();
        misses();
        speeds();
        weeks();
        lifts();
        parcels();
        roundsUnderWay();
        images();
        System.out.println(wrong == 0 ? checked + " refusals are as due" : wrong + " are not as due");
        if (wrong != 0) {
            System.exit(1);
        }
    }

    /** Without this the twins could differ by themselves, or tell too little. */
    private static void noObjectTellsMoreThanItsCalls() {
        of(0, "REFUSALS (the call answers the number; nothing changes but how many there were");
        due("two lakes alike", askAll(lake()).equals(askAll(lake())) ? 1 : 0, 1);
        Call[] changes = {x -> x.row(EMPTY, 0, 0), x -> x.set(ROUND, 0, 1), x -> x.show(A_JETTY, 2), x -> x.wet(3, true),
            x -> x.jetty(0, 0, 1, 0), x -> x.lake(0, LEVEL + 1), x -> x.lake(1, 22), x -> x.lake(2, 34), x -> x.wind(11, 4),
            x -> x.feed(' ', 1), x -> x.wipe(), x -> x.force(1), x -> x.leaper(1), x -> x.tried(2, 1, 0), x -> x.tried(2, 1, 1),
            x -> x.learn(0), x -> x.parcel(0, 25, 20), x -> x.seed(1), x -> x.begin(1, ROUND, 3), x -> x.step(),
            x -> x.image(), x -> x.back()};
        for (int i = 0; i < changes.length; i++) {
            LettersLeaping x = lake();
            changes[i].of(x);
            due("change " + i + " can be seen", askAll(x).equals(askAll(lake())) ? 0 : 1, 1);
        }
    }

    // ---- shelves ----

    private static void rows() {
        of(2, "SHELF s holds a new ROW: 1. BAD.");
        bounds(0, 7, "row(#, 0, 3)", (x, v) -> x.row(v, 0, 3));
        bounds(0, 4, "row(0, #, 3)", (x, v) -> x.row(0, v, 3));
        bounds(0, 40, "row(0, 0, #)", (x, v) -> x.row(0, 0, v));
        refuses(BAD, "row(2, 5, 0) over a jetty", x -> x.row(A_JETTY, 5, 0));
        refuses(BAD, "row(8, 5, 41), all of it bad", x -> x.row(8, 5, 41));
    }

    private static void sets() {
        of(3, "Element i of the ROW in SHELF s becomes v: 1. BAD SHELF; OTHER; NOTHING; BAD i.");
        bounds(0, 7, "set(#, 0, 1)", (x, v) -> x.set(v, 0, 1));
        bounds(0, 3, "set(0, #, 1)", (x, v) -> x.set(ROUND, v, 1));
        bounds(0, 39, "set(7, #, 1)", (x, v) -> x.set(SHORTS, v, 1));
        bounds(0, 1, "set(5, #, 1)", (x, v) -> x.set(BOOLEANS, v, 1));
        refuses(BAD, "set(4, 0, 1) of a row of 0", x -> x.set(NO_BYTES, 0, 1));
        refuses(BAD, "set(8, -1, 1)", x -> x.set(8, -1, 1));
        refuses(OTHER, "set(2, 0, 1) of a jetty", x -> x.set(A_JETTY, 0, 1));
        refuses(OTHER, "set(2, -1, 1): other ahead of bad i", x -> x.set(A_JETTY, -1, 1));
        refuses(NOTHING, "set(3, 0, 1)", x -> x.set(EMPTY, 0, 1));
        refuses(NOTHING, "set(3, -1, 1): nothing ahead of bad i", x -> x.set(EMPTY, -1, 1));
    }

    private static void copies() {
        of(4, "BAD SHELVES; OTHER (also ROWS of two SORTS, if both hold something (a ROW of 0, too)); NOTHING; BAD the others");
        outside(0, 7, "copy(#, 0, 0, 0, 1)", (x, v) -> x.copy(v, ROUND, 0, 0, 1));
        outside(0, 7, "copy(0, #, 0, 0, 1)", (x, v) -> x.copy(ROUND, v, 0, 0, 1));
        bounds(0, 7, "copy(#, #, 0, 0, 1)", (x, v) -> x.copy(v, v, 0, 0, 1));
        refuses(BAD, "copy(8, 2, 0, 0, 1): bad shelf ahead of other", x -> x.copy(8, A_JETTY, 0, 0, 1));
        refuses(BAD, "copy(2, -1, 0, 0, 1): bad shelf ahead of other", x -> x.copy(A_JETTY, -1, 0, 0, 1));
        refuses(BAD, "copy(3, 8, 0, 0, 1): bad shelf ahead of nothing", x -> x.copy(EMPTY, 8, 0, 0, 1));
        refuses(OTHER, "copy(2, 0, 0, 0, 1)", x -> x.copy(A_JETTY, ROUND, 0, 0, 1));
        refuses(OTHER, "copy(0, 2, 0, 0, 1)", x -> x.copy(ROUND, A_JETTY, 0, 0, 1));
        refuses(OTHER, "copy(2, 2, 0, 0, 0)", x -> x.copy(A_JETTY, A_JETTY, 0, 0, 0));
        refuses(OTHER, "copy(2, 3, 0, 0, 1): other ahead of nothing", x -> x.copy(A_JETTY, EMPTY, 0, 0, 1));
        refuses(OTHER, "copy(3, 2, 0, 0, 1): other ahead of nothing", x -> x.copy(EMPTY, A_JETTY, 0, 0, 1));
        refuses(OTHER, "copy(0, 2, -1, 0, 1): other ahead of bad i", x -> x.copy(ROUND, A_JETTY, -1, 0, 1));
        refuses(OTHER, "copy(0, 1, 0, 0, 1) of two sorts", x -> x.copy(ROUND, NO_ROUND, 0, 0, 1));
        refuses(OTHER, "copy(1, 0, 0, 0, 1) of two sorts", x -> x.copy(NO_ROUND, ROUND, 0, 0, 1));
        refuses(OTHER, "copy(0, 4, 0, 0, 0) to a row of 0", x -> x.copy(ROUND, NO_BYTES, 0, 0, 0));
        refuses(OTHER, "copy(4, 0, 0, 0, 0) from a row of 0", x -> x.copy(NO_BYTES, ROUND, 0, 0, 0));
        refuses(OTHER, "copy(0, 1, 9, 9, 9): two sorts ahead of bad i", x -> x.copy(ROUND, NO_ROUND, 9, 9, 9));
        refuses(NOTHING, "copy(0, 3, 0, 0, 1)", x -> x.copy(ROUND, EMPTY, 0, 0, 1));
        refuses(NOTHING, "copy(3, 0, 0, 0, 1)", x -> x.copy(EMPTY, ROUND, 0, 0, 1));
        refuses(NOTHING, "copy(3, 3, 0, 0, 0)", x -> x.copy(EMPTY, EMPTY, 0, 0, 0));
        refuses(NOTHING, "copy(4, 3, 0, 0, 0) of a row of 0", x -> x.copy(NO_BYTES, EMPTY, 0, 0, 0));
        refuses(NOTHING, "copy(3, 0, -1, -1, -1): nothing ahead of bad i", x -> x.copy(EMPTY, ROUND, -1, -1, -1));
        of(4, "BAD the others (n 0 at the end is none of these)");
        bounds(0, 3, "copy(0, 0, #, 0, 1)", (x, v) -> x.copy(ROUND, ROUND, v, 0, 1));
        bounds(0, 3, "copy(0, 0, 0, #, 1)", (x, v) -> x.copy(ROUND, ROUND, 0, v, 1));
        bounds(0, 4, "copy(0, 0, 0, 0, #)", (x, v) -> x.copy(ROUND, ROUND, 0, 0, v));
        bounds(0, 2, "copy(0, 0, 2, 0, #)", (x, v) -> x.copy(ROUND, ROUND, 2, 0, v));
        bounds(0, 2, "copy(0, 0, 0, 2, #)", (x, v) -> x.copy(ROUND, ROUND, 0, 2, v));
        bounds(0, 4, "copy(0, 0, #, 0, 0)", (x, v) -> x.copy(ROUND, ROUND, v, 0, 0));
        bounds(0, 4, "copy(0, 0, 0, #, 0)", (x, v) -> x.copy(ROUND, ROUND, 0, v, 0));
        bounds(0, 0, "copy(4, 4, #, 0, 0)", (x, v) -> x.copy(NO_BYTES, NO_BYTES, v, 0, 0));
        bounds(0, 0, "copy(4, 4, 0, 0, #)", (x, v) -> x.copy(NO_BYTES, NO_BYTES, 0, 0, v));
        refuses(BAD, "copy(0, 0, 1, 1, MAX)", x -> x.copy(ROUND, ROUND, 1, 1, MAX));
        refuses(BAD, "copy(0, 0, MAX, MAX, MAX)", x -> x.copy(ROUND, ROUND, MAX, MAX, MAX));
    }

    private static void neverRefused() {
        int[] odd = {-1, 0, 3, 7, 8, 40, MIN, MAX};
        for (int v : odd) {
            of(5, "Element i of the ROW; 0: none, no ROW (nothing is refused).");
            accepts("element(" + v + ", 0)", x -> x.element(v, 0));
            accepts("element(0, " + v + ")", x -> x.element(0, v));
            of(6, "NONE NOTHING, no SHELF");
            accepts("holds(" + v + ")", x -> x.holds(v));
            of(42, "SEED becomes v: the one ahead.");
            accepts("seed(" + v + ")", x -> x.seed(v));
            of(48, "NONE another what.");
            accepts("status(" + v + ")", x -> x.status(v));
        }
        of(17, "THE TAPE is empty: its size ahead.");
        accepts(LettersLeaping::new, "wipe() of an empty tape", x -> x.wipe());
        of(46, "All is kept");
        accepts(LettersLeaping::new, "image() of an empty lake", x -> x.image());
    }

    private static void shows() {
        of(7, "SHELF s holds a JETTY, or NOTHING (jetty NONE): 1. BAD.");
        bounds(0, 7, "show(#, 0)", (x, v) -> x.show(v, 0));
        bounds(0, 7, "show(#, NONE)", (x, v) -> x.show(v, NONE));
        bounds(NONE, LAST_JETTY, "show(0, #)", (x, v) -> x.show(0, v));
        refuses(LettersLeaping::new, BAD, BAD, "show(0, 0) without jetties", x -> x.show(0, 0));
    }

    private static void says() {
        of(8, "BAD SHELF, KIND; OTHER (also if it is of no such KIND nor of one under it); NOTHING.");
        outside(0, 7, "says(#, 0)", (x, v) -> x.says(v, 0));
        Build shown = () -> {
            LettersLeaping x = lake();
            x.show(0, 0);
            x.show(7, 0);
            return x;
        };
        accepts(shown, "says(0, 0)", x -> x.says(0, 0));
        accepts(shown, "says(7, 0)", x -> x.says(7, 0));
        outside(0, 5, "says(2, #)", (x, v) -> x.says(A_JETTY, v));
        refuses(BAD, "says(8, 6)", x -> x.says(8, 6));
        refuses(BAD, "says(0, 6): bad kind ahead of other", x -> x.says(ROUND, 6));
        refuses(BAD, "says(3, -1): bad kind ahead of nothing", x -> x.says(EMPTY, -1));
        refuses(OTHER, "says(0, 0) of a row", x -> x.says(ROUND, 0));
        refuses(OTHER, "says(4, 0) of a row of 0", x -> x.says(NO_BYTES, 0));
        refuses(NOTHING, "says(3, 0)", x -> x.says(EMPTY, 0));
        refuses(NOTHING, "says(3, 5)", x -> x.says(EMPTY, 5));
        String[] under = {"0", "01", "012", "03", "034", "05"};
        for (int kind = 0; kind < 6; kind++) {
            int number = kind;
            Build oneShown = () -> {
                LettersLeaping x = lake();
                x.show(A_JETTY, number);
                return x;
            };
            for (int as = 0; as < 6; as++) {
                int wanted = as;
                String text = "says(2, " + as + ") of kind " + kind;
                if (under[kind].indexOf('0' + as) >= 0) {
                    accepts(oneShown, text, x -> x.says(A_JETTY, wanted));
                } else {
                    refuses(oneShown, OTHER, OTHER, text, x -> x.says(A_JETTY, wanted));
                }
            }
        }
    }

    // ---- the lake ----

    private static void jetties() {
        of(9, "A JETTY: its number. BAD; FULL.");
        bounds(0, 5, "jetty(#, 0, 1, 0)", (x, v) -> x.jetty(v, 0, 1, 0));
        bounds(0, 255, "jetty(0, #, 1, 0)", (x, v) -> x.jetty(0, v, 1, 0));
        bounds(1, 30, "jetty(0, 0, #, 0)", (x, v) -> x.jetty(0, 0, v, 0));
        bounds(0, 99, "jetty(0, 0, 1, #)", (x, v) -> x.jetty(0, 0, 1, v));
        Build full = () -> fullLake(20, 1, 0, 0);
        accepts(() -> fullLake(19, 1, 0, 0), "the twentieth jetty", x -> x.jetty(5, 255, 30, 99));
        refuses(full, FULL, FULL, "the jetty after the twentieth", x -> x.jetty(0, 0, 1, 0));
        refuses(full, BAD, BAD, "bad kind ahead of full", x -> x.jetty(6, 0, 1, 0));
        refuses(full, BAD, BAD, "bad spot ahead of full", x -> x.jetty(0, 256, 1, 0));
        refuses(full, BAD, BAD, "bad length ahead of full", x -> x.jetty(0, 0, 31, 0));
        refuses(full, BAD, BAD, "bad height ahead of full", x -> x.jetty(0, 0, 1, 100));
        of(10, "1 if THERE IS TIME by the LAW in force (7). BAD.");
        bounds(0, LAST_JETTY, "jettyOf(#, 0)", (x, v) -> x.jettyOf(v, 0));
        bounds(0, 7, "jettyOf(0, #)", (x, v) -> x.jettyOf(0, v));
        of(11, "A JETTY is WET, or not: 1 if it was, 0. BAD.");
        bounds(0, LAST_JETTY, "wet(#, true)", (x, v) -> x.wet(v, true));
        outside(0, LAST_JETTY, "wet(#, false)", (x, v) -> x.wet(v, false));
    }

    private static void lakes() {
        of(12, "RISE at a LEVEL. -1002: no such ones (counted as BAD).");
        for (int v : new int[] {-1, LAST_JETTY + 1, MIN, MAX}) {
            refuses(RefusalTest::lake, -1002, BAD, "rise(" + v + ", 0)", x -> x.rise(v, 0));
        }
        for (int v : new int[] {-51, 51, MIN, MAX}) {
            refuses(RefusalTest::lake, -1002, BAD, "rise(0, " + v + ")", x -> x.rise(0, v));
        }
        for (int v : new int[] {-50, 50}) {
            accepts("rise(0, " + v + ")", x -> x.rise(0, v));
            accepts("rise(6, " + v + ")", x -> x.rise(LAST_JETTY, v));
        }
        of(13, "LEVEL (what 0, -50 to 50), GUESTS (1), HARBOUR (2) becomes v: 1 if it was another, 0. BAD.");
        bounds(-50, 50, "lake(0, #)", (x, v) -> x.lake(0, v));
        bounds(0, 60, "lake(1, #)", (x, v) -> x.lake(1, v));
        bounds(0, 255, "lake(2, #)", (x, v) -> x.lake(2, v));
        bounds(0, 2, "lake(#, 7)", (x, v) -> x.lake(v, 7));
        of(14, "WIND of an HOUR becomes v: what it was. BAD.");
        bounds(0, 11, "wind(#, 1)", (x, v) -> x.wind(v, 1));
        bounds(0, 9, "wind(0, #)", (x, v) -> x.wind(0, v));
        of(15, "12 at most: how many. BAD; OTHER; NOTHING.");
        bounds(0, 7, "winds(#)", (x, v) -> x.winds(v));
        accepts("winds(4) of a row of 0", x -> x.winds(NO_BYTES));
        refuses(OTHER, "winds(2)", x -> x.winds(A_JETTY));
        refuses(NOTHING, "winds(3)", x -> x.winds(EMPTY));
    }

    // ---- laws ----

    private static void tapes() {
        of(16, "its size. BAD; FULL.");
        bounds(1, 4, "feed(0, #)", (x, v) -> x.feed(0, v));
        for (int size = 156; size <= 160; size++) {
            int had = size;
            for (int n = 1; n <= 4; n++) {
                int more = n;
                String text = n + " bytes behind " + size;
                if (size + n <= 160) {
                    accepts(() -> withTape(had), text, x -> x.feed(0x20202020, more));
                } else {
                    refuses(() -> withTape(had), FULL, FULL, text, x -> x.feed(0x20202020, more));
                }
            }
            refuses(() -> withTape(had), BAD, BAD, "0 bytes behind " + size, x -> x.feed(0, 0));
            refuses(() -> withTape(had), BAD, BAD, "5 bytes behind " + size, x -> x.feed(0, 5));
        }
    }

    private static void laws() {
        of(18, "-20 less the FAULT (that is refused, too: BAD). THE TAPE is empty then, either way.");
        Build faulty = () -> {
            LettersLeaping x = lake();
            x.wipe();
            write(x, "leg 9;leg 0");
            return x;
        };
        LettersLeaping x = faulty.build();
        LettersLeaping y = faulty.build();
        due("a fault at 10", x.law(), -30);
        y.wipe();
        due("counted as bad", x.status(12) - y.status(12), 1);
        due("nothing changes but the tape", askAll(x).equals(askAll(y)) ? 1 : 0, 1);
        of(18, "FULL (ahead of all; THE TAPE stays).");
        accepts(() -> fullLake(1, 1, 5, 0), "the sixth law", z -> z.law());
        refuses(() -> fullLake(1, 1, 6, 0), FULL, FULL, "the law after the sixth", z -> z.law());
        Build fullAndFaulty = () -> {
            LettersLeaping z = fullLake(1, 1, 6, 0);
            write(z, "5");
            return z;
        };
        refuses(fullAndFaulty, FULL, FULL, "full ahead of a fault", z -> z.law());
        Build fullAndEmpty = () -> {
            LettersLeaping z = fullLake(1, 1, 6, 0);
            z.wipe();
            return z;
        };
        refuses(fullAndEmpty, FULL, FULL, "full ahead of an empty tape", z -> z.law());
        of(19, "skill (7), leg (8). BAD.");
        bounds(0, LAST_LAW, "lawOf(#, 0)", (z, v) -> z.lawOf(v, 0));
        bounds(0, 8, "lawOf(0, #)", (z, v) -> z.lawOf(0, v));
        refuses(LettersLeaping::new, BAD, BAD, "lawOf(0, 0) without laws", z -> z.lawOf(0, 0));
        of(20, "A LAW is in force (NONE: none): which was (NONE). BAD.");
        bounds(NONE, LAST_LAW, "force(#)", (z, v) -> z.force(v));
        refuses(LettersLeaping::new, BAD, BAD, "force(0) without laws", z -> z.force(0));
    }

    // ---- leapers and leaps ----

    private static void leapers() {
        of(21, "A LEAPER: the number. BAD; FULL.");
        bounds(0, 99, "leaper(#)", (x, v) -> x.leaper(v));
        accepts(() -> fullLake(1, 5, 0, 0), "the sixth leaper", x -> x.leaper(99));
        refuses(() -> fullLake(1, 6, 0, 0), FULL, FULL, "the leaper after the sixth", x -> x.leaper(0));
        refuses(() -> fullLake(1, 6, 0, 0), BAD, BAD, "bad skill ahead of full", x -> x.leaper(100));
        of(22, "SKILL (0), LEAPS (1), DROPS (2). BAD.");
        bounds(0, LAST_LEAPER, "leaperOf(#, 0)", (x, v) -> x.leaperOf(v, 0));
        bounds(0, 2, "leaperOf(0, #)", (x, v) -> x.leaperOf(0, v));
        of(23, "n LEAPS (1 to 99) of a LEAPER were tried, k of them DROPS (0 to n): LEAPS in all. BAD.");
        bounds(0, LAST_LEAPER, "tried(#, 1, 0)", (x, v) -> x.tried(v, 1, 0));
        bounds(1, 99, "tried(0, #, 0)", (x, v) -> x.tried(0, v, 0));
        bounds(1, 99, "tried(0, #, #)", (x, v) -> x.tried(0, v, v));
        bounds(0, 1, "tried(0, 1, #)", (x, v) -> x.tried(0, 1, v));
        bounds(0, 99, "tried(0, 99, #)", (x, v) -> x.tried(0, 99, v));
        of(24, "LEARNT. BAD.");
        bounds(0, LAST_LEAPER, "learnt(#)", (x, v) -> x.learnt(v));
        of(25, "SKILL becomes what is LEARNT: the one ahead. BAD.");
        bounds(0, LAST_LEAPER, "learn(#)", (x, v) -> x.learn(v));
    }

    private static void leaps() {
        of(26, "RISK. BAD.");
        bounds(0, LAST_LEAPER, "risk(#, 0, 0)", (x, v) -> x.risk(v, 0, 0));
        bounds(0, LAST_JETTY, "risk(0, #, 0)", (x, v) -> x.risk(0, v, 0));
        bounds(0, 11, "risk(0, 0, #)", (x, v) -> x.risk(0, 0, v));
        of(27, "The HOUR of the least RISK of a LEAPER at a JETTY, of several the first. BAD.");
        bounds(0, LAST_LEAPER, "calm(#, 0)", (x, v) -> x.calm(v, 0));
        bounds(0, LAST_JETTY, "calm(0, #)", (x, v) -> x.calm(0, v));
        of(28, "Minutes of a LEG from one SPOT to another one. BAD.");
        bounds(0, 255, "leg(#, 0)", (x, v) -> x.leg(v, 0));
        bounds(0, 255, "leg(0, #)", (x, v) -> x.leg(0, v));
        of(32, "of several the first. BAD; STUCK: no LEAPERS.");
        bounds(0, LAST_JETTY, "safest(#, 0)", (x, v) -> x.safest(v, 0));
        bounds(0, 11, "safest(0, #)", (x, v) -> x.safest(0, v));
        Build noLeapers = () -> fullLake(2, 0, 0, 0);
        refuses(noLeapers, STUCK, STUCK, "safest(0, 0) without leapers", x -> x.safest(0, 0));
        refuses(noLeapers, BAD, BAD, "bad jetty ahead of stuck", x -> x.safest(2, 0));
        refuses(noLeapers, BAD, BAD, "bad hour ahead of stuck", x -> x.safest(1, 12));
        accepts(() -> fullLake(2, 1, 0, 0), "safest(0, 0) with one leaper", x -> x.safest(0, 0));
    }

    // ---- rounds ----

    /** A call that is told a round by a shelf and n. */
    private interface Told {
        long of(LettersLeaping x, int s, int n);
    }

    /** least: the least n with which the other arguments may be. */
    private static void roundTold(String name, int least, Told call) {
        bounds(0, 7, name + " of shelf #", (x, v) -> call.of(x, v, least));
        outside(0, 20, name + " of n #", (x, v) -> call.of(x, SHORTS, v));
        accepts(name + " of n " + least, x -> call.of(x, SHORTS, least));
        accepts(name + " of n 20", x -> call.of(x, SHORTS, 20));
        refuses(BAD, name + ": bad n ahead of other", x -> call.of(x, A_JETTY, 21));
        refuses(BAD, name + ": bad n ahead of nothing", x -> call.of(x, EMPTY, 21));
        refuses(OTHER, name + " of a jetty", x -> call.of(x, A_JETTY, least));
        refuses(OTHER, name + " of a jetty, n 20", x -> call.of(x, A_JETTY, 20));
        refuses(NOTHING, name + " of nothing", x -> call.of(x, EMPTY, least));
        refuses(NOTHING, name + " of nothing, n 20", x -> call.of(x, EMPTY, 20));
        accepts(name + " of all four", x -> call.of(x, ROUND, 4));
        refuses(BAD, name + " of five of four", x -> call.of(x, ROUND, 5));
        refuses(BAD, name + " of one of none", x -> call.of(x, NO_BYTES, 1));
        accepts(name + " of what comes ahead of no jetty", x -> call.of(x, NO_ROUND, 1));
        refuses(BAD, name + " with a jetty too many", x -> call.of(x, NO_ROUND, 2));
        for (long v : new long[] {LAST_JETTY + 1, -1, 1L << 32, Long.MIN_VALUE, Long.MAX_VALUE}) {
            refuses(() -> lastTold(v), BAD, BAD, name + " with a last element " + v, x -> call.of(x, NO_ROUND, 2));
            refuses(() -> firstTold(v), BAD, BAD, name + " with a first element " + v, x -> call.of(x, NO_ROUND, 1));
        }
        accepts(() -> lastTold(LAST_JETTY), name + " with the last jetty", x -> call.of(x, NO_ROUND, 2));
    }

    private static LettersLeaping lastTold(long v) {
        LettersLeaping x = lake();
        x.set(NO_ROUND, 1, v);
        return x;
    }

    private static LettersLeaping firstTold(long v) {
        LettersLeaping x = lake();
        x.set(NO_ROUND, 0, v);
        return x;
    }

    private static void rounds() {
        of(29, "BAD LEAPER, SHELF, n, what; OTHER; NOTHING; BAD: fewer elements, one that is no JETTY.");
        for (int what = 0; what <= 2; what++) {
            int asked = what;
            roundTold("round, what " + what, 0, (x, s, n) -> x.round(0, s, n, asked));
            accepts("round of a row of 0", x -> x.round(0, NO_BYTES, 0, asked));
        }
        bounds(0, LAST_LEAPER, "round(#, 0, 4, 0)", (x, v) -> x.round(v, ROUND, 4, 0));
        bounds(0, 2, "round(0, 0, 4, #)", (x, v) -> x.round(0, ROUND, 4, v));
        refuses(BAD, "round: bad leaper ahead of other", x -> x.round(3, A_JETTY, 1, 0));
        refuses(BAD, "round: bad leaper ahead of nothing", x -> x.round(3, EMPTY, 1, 0));
        refuses(BAD, "round: bad what ahead of other", x -> x.round(0, A_JETTY, 1, 3));
        refuses(BAD, "round: bad what ahead of nothing", x -> x.round(0, EMPTY, 1, 3));
    }

    private static void bests() {
        of(30, "BAD: a set with others than JETTIES or more than 6, no such place, too; STUCK: no order ends by then.");
        bounds(0, LAST_LEAPER, "best(#, 7, 999, 0)", (x, v) -> x.best(v, 7, 999, 0));
        accepts("six jetties", x -> x.best(0, 63, 999, 0));
        accepts("six jetties with the last", x -> x.best(0, 126, 999, 0));
        accepts("no jetties", x -> x.best(0, 0, 999, 0));
        refuses(BAD, "seven jetties", x -> x.best(0, 127, 999, 0));
        refuses(BAD, "a jetty too many", x -> x.best(0, 128, 999, 0));
        refuses(BAD, "bit 20", x -> x.best(0, 1 << 20, 999, 0));
        refuses(BAD, "bit 30", x -> x.best(0, 1 << 30, 999, 0));
        refuses(BAD, "the sign's bit", x -> x.best(0, MIN, 999, 0));
        refuses(BAD, "all bits", x -> x.best(0, -1, 999, 0));
        refuses(BAD, "end -1", x -> x.best(0, 7, -1, 0));
        refuses(BAD, "end 1000", x -> x.best(0, 7, 1000, 0));
        refuses(BAD, "end MIN", x -> x.best(0, 7, MIN, 0));
        refuses(BAD, "end MAX", x -> x.best(0, 7, MAX, 0));
        accepts("end 0 without jetties", x -> x.best(0, 0, 0, 0));
        bounds(0, 1, "best(0, 0, 999, #)", (x, v) -> x.best(0, 0, 999, v));
        bounds(0, 1, "best(0, 7, 999, #)", (x, v) -> x.best(0, 7, 999, v));
        bounds(10, 10, "best(0, 1, 999, #)", (x, v) -> x.best(0, 1, 999, v));
        bounds(10, 12, "best(0, 7, 999, #)", (x, v) -> x.best(0, 7, 999, v));
        bounds(10, 15, "best(0, 63, 999, #)", (x, v) -> x.best(0, 63, 999, v));
        refuses(BAD, "a first place of none", x -> x.best(0, 0, 999, 10));
        refuses(STUCK, "three jetties by minute 0", x -> x.best(0, 7, 0, 0));
        refuses(STUCK, "three jetties by minute 0, the end", x -> x.best(0, 7, 0, 1));
        refuses(STUCK, "three jetties by minute 0, the first", x -> x.best(0, 7, 0, 10));
        refuses(BAD, "bad leaper ahead of stuck", x -> x.best(3, 7, 0, 0));
        refuses(BAD, "bad set ahead of stuck", x -> x.best(0, 127, 0, 0));
        refuses(BAD, "bad place ahead of stuck", x -> x.best(0, 7, 0, 13));
        refuses(() -> fullLake(3, 0, 0, 0), BAD, BAD, "best(0, 0, 0, 0) without leapers", x -> x.best(0, 0, 0, 0));
        accepts(() -> fullLake(20, 1, 0, 0), "the twentieth jetty", x -> x.best(0, 1 << 19, 999, 0));
        refuses(() -> fullLake(20, 1, 0, 0), BAD, BAD, "the one after it", x -> x.best(0, 1 << 20, 999, 0));
        refuses(() -> fullLake(0, 1, 0, 0), BAD, BAD, "jetty 0 of none", x -> x.best(0, 1, 999, 0));
    }

    private static void teams() {
        of(31, "BAD: a set as in best(), a JETTY not of it, HOUR, m; STUCK: fewer LEAPERS than that takes.");
        accepts("six jetties", x -> x.team(63, 2, 0, NONE));
        accepts("six jetties with the last", x -> x.team(126, 2, 0, 6));
        accepts("no jetties", x -> x.team(0, 1, 0, NONE));
        refuses(BAD, "seven jetties", x -> x.team(127, 6, 0, NONE));
        refuses(BAD, "a jetty too many", x -> x.team(128, 6, 0, NONE));
        refuses(BAD, "bit 30", x -> x.team(1 << 30, 6, 0, NONE));
        refuses(BAD, "the sign's bit", x -> x.team(MIN, 6, 0, NONE));
        refuses(BAD, "all bits", x -> x.team(-1, 6, 0, NONE));
        bounds(1, 6, "team(7, #, 0, NONE)", (x, v) -> x.team(7, v, 0, NONE));
        bounds(0, 11, "team(7, 1, #, NONE)", (x, v) -> x.team(7, 1, v, NONE));
        bounds(NONE, 2, "team(7, 1, 0, #)", (x, v) -> x.team(7, 1, 0, v));
        refuses(BAD, "a jetty not of the set", x -> x.team(5, 1, 0, 1));
        refuses(BAD, "a jetty of no jetties", x -> x.team(0, 1, 0, 0));
        refuses(BAD, "32 is not jetty 0", x -> x.team(7, 1, 0, 32));
        refuses(BAD, "-32 is not jetty 0", x -> x.team(7, 1, 0, -32));
        accepts("three jetties, three leapers", x -> x.team(7, 1, 0, NONE));
        refuses(STUCK, "four jetties, three leapers", x -> x.team(15, 1, 0, NONE));
        refuses(STUCK, "four jetties, three leapers", x -> x.team(15, 1, 0, 3));
        refuses(BAD, "a jetty not of the set ahead of stuck", x -> x.team(15, 1, 0, 4));
        refuses(BAD, "bad hour ahead of stuck", x -> x.team(15, 1, 12, NONE));
        refuses(BAD, "bad m ahead of stuck", x -> x.team(15, 0, 0, NONE));
        Build noLeapers = () -> fullLake(7, 0, 0, 0);
        accepts(noLeapers, "no leapers for none", x -> x.team(0, 1, 0, NONE));
        refuses(noLeapers, STUCK, STUCK, "no leapers for one", x -> x.team(1, 6, 0, NONE));
        Build oneLeaper = () -> fullLake(7, 1, 0, 0);
        accepts(oneLeaper, "one leaper for six", x -> x.team(63, 6, 0, NONE));
        refuses(oneLeaper, STUCK, STUCK, "one leaper for five of six", x -> x.team(63, 5, 0, NONE));
    }

    private static void misses() {
        of(33, "BAD LEAPER, SHELF, n, i, what; OTHER; NOTHING; BAD likewise.");
        for (int what = 0; what <= 2; what++) {
            int asked = what;
            roundTold("missed, what " + what, 1, (x, s, n) -> x.missed(0, s, n, 0, asked));
        }
        bounds(0, LAST_LEAPER, "missed(#, 0, 4, 0, 0)", (x, v) -> x.missed(v, ROUND, 4, 0, 0));
        bounds(0, 3, "missed(0, 0, 4, #, 0)", (x, v) -> x.missed(0, ROUND, 4, v, 0));
        bounds(0, 0, "missed(0, 0, 1, #, 0)", (x, v) -> x.missed(0, ROUND, 1, v, 0));
        bounds(0, 19, "missed(0, 7, 20, #, 0)", (x, v) -> x.missed(0, SHORTS, 20, v, 0));
        bounds(0, 2, "missed(0, 0, 4, 0, #)", (x, v) -> x.missed(0, ROUND, 4, 0, v));
        refuses(BAD, "no place in a round of none", x -> x.missed(0, ROUND, 0, 0, 0));
        refuses(BAD, "missed: bad leaper ahead of other", x -> x.missed(3, A_JETTY, 1, 0, 0));
        refuses(BAD, "missed: bad leaper ahead of nothing", x -> x.missed(3, EMPTY, 1, 0, 0));
        refuses(BAD, "missed: bad place ahead of other", x -> x.missed(0, A_JETTY, 1, 1, 0));
        refuses(BAD, "missed: bad place ahead of nothing", x -> x.missed(0, EMPTY, 1, 1, 0));
        refuses(BAD, "missed: bad what ahead of other", x -> x.missed(0, A_JETTY, 1, 0, 3));
        refuses(BAD, "missed: bad what ahead of nothing", x -> x.missed(0, EMPTY, 1, 0, 3));
    }

    private static void speeds() {
        of(34, "NONE: none. BAD; OTHER; NOTHING; BAD as round().");
        roundTold("pilot", 0, (x, s, n) -> x.pilot(s, n, 5));
        bounds(0, 999, "pilot(0, 4, #)", (x, v) -> x.pilot(ROUND, 4, v));
        refuses(BAD, "pilot: bad end ahead of other", x -> x.pilot(A_JETTY, 1, 1000));
        refuses(BAD, "pilot: bad end ahead of nothing", x -> x.pilot(EMPTY, 1, 1000));
        of(35, "NONE: none. BAD; OTHER; NOTHING; BAD likewise.");
        roundTold("still", 0, (x, s, n) -> x.still(s, n));
    }

    private static void weeks() {
        of(36, "the LEVEL falling by v (1 to 20) a WEEK, of several the first; NONE. BAD.");
        bounds(1, 20, "firstOut(#)", (x, v) -> x.firstOut(v));
        of(40, "the LEVEL falling by v (1 to 20) a WEEK; NONE. BAD.");
        bounds(0, LAST_JETTY, "week(#, 1)", (x, v) -> x.week(v, 1));
        bounds(1, 20, "week(0, #)", (x, v) -> x.week(0, v));
        of(41, "JETTIES (bits) that are OUT in a WEEK (0 to 20) by it. BAD.");
        bounds(0, 20, "outs(#, 1)", (x, v) -> x.outs(v, 1));
        bounds(1, 20, "outs(1, #)", (x, v) -> x.outs(1, v));
    }

    // ---- letters and parcels ----

    private static void lifts() {
        of(37, "BAD SHELVES, n, k; OTHER; NOTHING; BAD: fewer elements, one that is no JETTY.");
        bounds(0, 7, "lifts(#, 0, 0, 0)", (x, v) -> x.lifts(v, 0, ROUND, 0));
        bounds(0, 7, "lifts(0, 0, #, 0)", (x, v) -> x.lifts(ROUND, 0, v, 0));
        bounds(0, 40, "lifts(7, #, 0, 1)", (x, v) -> x.lifts(SHORTS, v, ROUND, 1));
        bounds(0, 20, "lifts(0, 1, 7, #)", (x, v) -> x.lifts(ROUND, 1, SHORTS, v));
        accepts("a bag and a round of rows of 0", x -> x.lifts(NO_BYTES, 0, NO_BYTES, 0));
        refuses(BAD, "lifts: bad shelf ahead of other", x -> x.lifts(A_JETTY, 1, 8, 1));
        refuses(BAD, "lifts: bad shelf ahead of nothing", x -> x.lifts(8, 1, EMPTY, 1));
        refuses(BAD, "lifts: bad n ahead of other", x -> x.lifts(A_JETTY, 41, ROUND, 1));
        refuses(BAD, "lifts: bad n ahead of nothing", x -> x.lifts(EMPTY, 41, ROUND, 1));
        refuses(BAD, "lifts: bad k ahead of other", x -> x.lifts(A_JETTY, 1, ROUND, 21));
        refuses(BAD, "lifts: bad k ahead of nothing", x -> x.lifts(EMPTY, 1, ROUND, 21));
        refuses(OTHER, "a bag of a jetty", x -> x.lifts(A_JETTY, 0, ROUND, 1));
        refuses(OTHER, "a round of a jetty", x -> x.lifts(ROUND, 1, A_JETTY, 0));
        refuses(OTHER, "other ahead of nothing", x -> x.lifts(A_JETTY, 1, EMPTY, 1));
        refuses(OTHER, "other ahead of nothing", x -> x.lifts(EMPTY, 1, A_JETTY, 1));
        refuses(OTHER, "other ahead of fewer elements", x -> x.lifts(ROUND, 5, A_JETTY, 1));
        refuses(NOTHING, "a bag of nothing", x -> x.lifts(EMPTY, 0, ROUND, 1));
        refuses(NOTHING, "a round of nothing", x -> x.lifts(ROUND, 1, EMPTY, 0));
        refuses(NOTHING, "nothing ahead of fewer elements", x -> x.lifts(ROUND, 5, EMPTY, 1));
        refuses(NOTHING, "nothing ahead of no jetty", x -> x.lifts(NO_ROUND, 2, EMPTY, 1));
        accepts("all four letters, all four jetties", x -> x.lifts(ROUND, 4, ROUND, 4));
        refuses(BAD, "five letters of four", x -> x.lifts(ROUND, 5, ROUND, 4));
        refuses(BAD, "five jetties of four", x -> x.lifts(ROUND, 4, ROUND, 5));
        refuses(BAD, "one letter of none", x -> x.lifts(NO_BYTES, 1, ROUND, 4));
        refuses(BAD, "one jetty of none", x -> x.lifts(ROUND, 4, NO_BYTES, 1));
        for (long v : new long[] {LAST_JETTY + 1, -1, 1L << 32, Long.MIN_VALUE, Long.MAX_VALUE}) {
            refuses(() -> lastTold(v), BAD, BAD, "a letter for " + v, x -> x.lifts(NO_ROUND, 2, ROUND, 4));
            refuses(() -> lastTold(v), BAD, BAD, "a round to " + v, x -> x.lifts(ROUND, 4, NO_ROUND, 2));
            refuses(() -> firstTold(v), BAD, BAD, "a first letter for " + v, x -> x.lifts(NO_ROUND, 1, ROUND, 4));
            refuses(() -> firstTold(v), BAD, BAD, "a round first to " + v, x -> x.lifts(ROUND, 4, NO_ROUND, 1));
        }
        accepts(() -> lastTold(LAST_JETTY), "a letter for the last jetty", x -> x.lifts(NO_ROUND, 2, NO_ROUND, 2));
        accepts("no jetty behind those asked for", x -> x.lifts(NO_ROUND, 1, NO_ROUND, 1));
    }

    private static void parcels() {
        of(38, "A PARCEL: its number. BAD; FULL.");
        bounds(0, LAST_JETTY, "parcel(#, 1, 1)", (x, v) -> x.parcel(v, 1, 1));
        bounds(1, 60, "parcel(0, #, 1)", (x, v) -> x.parcel(0, v, 1));
        bounds(1, 99, "parcel(0, 1, #)", (x, v) -> x.parcel(0, 1, v));
        Build full = () -> fullLake(1, 1, 0, 10);
        accepts(() -> fullLake(1, 1, 0, 9), "the tenth parcel", x -> x.parcel(0, 60, 99));
        refuses(full, FULL, FULL, "the parcel after the tenth", x -> x.parcel(0, 1, 1));
        refuses(full, BAD, BAD, "bad jetty ahead of full", x -> x.parcel(1, 1, 1));
        refuses(full, BAD, BAD, "bad minutes ahead of full", x -> x.parcel(0, 0, 1));
        refuses(full, BAD, BAD, "bad worth ahead of full", x -> x.parcel(0, 1, 100));
        of(39, "STOPS in so many minutes (0 to 600), as bits. BAD.");
        bounds(0, 600, "stops(#)", (x, v) -> x.stops(v));
    }

    // ---- a round under way ----

    private static void roundsUnderWay() {
        of(43, "BAD, OTHER, NOTHING as round().");
        roundTold("begin", 0, (x, s, n) -> x.begin(0, s, n));
        accepts("begin of a row of 0", x -> x.begin(0, NO_BYTES, 0));
        bounds(0, LAST_LEAPER, "begin(#, 0, 4)", (x, v) -> x.begin(v, ROUND, 4));
        refuses(BAD, "begin: bad leaper ahead of other", x -> x.begin(3, A_JETTY, 1));
        refuses(BAD, "begin: bad leaper ahead of nothing", x -> x.begin(3, EMPTY, 1));
        of(44, "STUCK: none is under way, it is at its end.");
        refuses(LettersLeaping::new, STUCK, STUCK, "step() with none begun", x -> x.step());
        accepts(() -> stepped(2), "the third leap of three", x -> x.step());
        refuses(() -> stepped(3), STUCK, STUCK, "a fourth leap of three", x -> x.step());
        refuses(RefusalTest::begunWithNone, STUCK, STUCK, "a leap of none", x -> x.step());
        of(45, "BAD; STUCK: none was begun.");
        bounds(0, 4, "under(#)", (x, v) -> x.under(v));
        for (int what = 0; what <= 4; what++) {
            int asked = what;
            refuses(LettersLeaping::new, STUCK, STUCK, "under(" + what + ") with none begun", x -> x.under(asked));
            accepts(() -> stepped(3), "under(" + what + ") at its end", x -> x.under(asked));
            accepts(RefusalTest::begunWithNone, "under(" + what + ") of a round of none", x -> x.under(asked));
        }
        for (int what : new int[] {-1, 5, MIN, MAX}) {
            refuses(LettersLeaping::new, BAD, BAD, "bad what ahead of stuck", x -> x.under(what));
        }
    }

    private static LettersLeaping stepped(int leaps) {
        LettersLeaping x = lake();
        x.begin(1, ROUND, 3);
        for (int i = 0; i < leaps; i++) {
            x.step();
        }
        return x;
    }

    private static LettersLeaping begunWithNone() {
        LettersLeaping x = lake();
        x.begin(1, NO_BYTES, 0);
        return x;
    }

    private static void images() {
        of(47, "STUCK: nothing was.");
        refuses(() -> fullLake(3, 2, 1, 1), STUCK, STUCK, "back() with nothing kept", x -> x.back());
        accepts("back()", x -> x.back());
        accepts(() -> {
            LettersLeaping x = lake();
            x.back();
            return x;
        }, "back() again", x -> x.back());
        accepts(() -> {
            LettersLeaping x = new LettersLeaping();
            x.image();
            return x;
        }, "back() to an empty lake", x -> x.back());
    }
}
