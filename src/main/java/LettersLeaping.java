/**
 * Letters brought round a lake by leapers from a boat that doesn't stop.
 *
 * Every method answers a number; what may not be is answered by a refusal below 0 and counted.
 * All rows are made with the object and used again, so that calls make no objects.
 */
public final class LettersLeaping {
    public static final int NONE = -1;

    private static final int FINE = 0;
    private static final int BAD = -2;
    private static final int OTHER = -3;
    private static final int NOTHING = -4;
    private static final int STUCK = -5;
    private static final int FULL = -6;
    private static final int REFUSALS = 5;
    private static final int RISE_REFUSED = -1000;
    private static final int LAW_REFUSED = -20;

    private static final int SHELVES = 8;
    private static final int MOST_ELEMENTS = 40;
    private static final int SORTS = 5;
    private static final int MOST_JETTIES = 20;
    private static final int MOST_LENGTH = 30;
    private static final int MOST_HEIGHT = 99;
    private static final int SPOTS = 256;
    private static final int SPOTS_IN_A_ROW = 16;
    private static final int MOST_LEVEL = 50;
    private static final int MOST_GUESTS = 60;
    private static final int MOST_TAPE = 160;
    private static final int MOST_LAWS = 6;
    private static final int MOST_LEAPERS = 6;
    private static final int MOST_SKILL = 99;
    private static final int MOST_TRIED = 99;
    private static final int HOURS = 12;
    private static final int MINUTES_OF_AN_HOUR = 60;
    private static final int MOST_WIND = 9;
    private static final int MOST_RISK = 1000;
    private static final int MOST_ROUND = 20;
    private static final int MOST_END = 999;
    private static final int MOST_SET = 6;
    private static final int FIRST_PLACE = 10;
    private static final int TOP_SPEED = 9;
    private static final int MISS_TURNS = 3;
    private static final int MOST_PARCELS = 10;
    private static final int MOST_STOP = 60;
    private static final int MOST_WORTH = 99;
    private static final int MOST_STOPS = 600;
    private static final int LAST_WEEK = 20;
    private static final int MOST_FALL = 20;
    private static final int SHOWN_JETTY = 10;
    /** Above every risk and every minute that the limits let be. */
    private static final int ABOVE_ALL = 1000000;

    private static final int JETTY = 0;
    private static final int PIER = 1;
    private static final int STAIR = 2;
    private static final int RAFT = 3;
    private static final int FLOAT = 4;
    private static final int ROCK = 5;
    private static final int KINDS = 6;
    private static final int[] KIND_ABOVE = {NONE, JETTY, PIER, JETTY, RAFT, JETTY};

    private static final int BOAT = 0;
    private static final int SPEED = 1;
    private static final int PACE = 2;
    private static final int BOX = 3;
    private static final int HIGH = 4;
    private static final int WET = 5;
    private static final int WIND = 6;
    private static final int SKILL = 7;
    private static final int LEG = 8;
    private static final int LAW_WORDS = 9;
    private static final int[] LAW_LEAST = {1, 1, 1, 0, 0, 0, 0, 0, 1};
    private static final int[] LAW_MOST = {99, 9, 9, 99, 9, 99, 99, 9, 9};
    private static final int[] LAW_AT_FIRST = {40, 4, 5, 3, 3, 40, 20, 4, 2};

    private final Shelf[] shelves = new Shelf[SHELVES];
    private final Tape tape = new Tape();
    private final Lake now = new Lake();
    private final Lake kept = new Lake();
    private boolean isKept;
    private final int[] refusals = new int[REFUSALS];
    private final Tour tour = new Tour();
    private final Tour plainTour = new Tour();
    private final OrderSearch orders = new OrderSearch();
    private final TeamSearch teams = new TeamSearch();
    private final int[] bag = new int[MOST_ELEMENTS];

    public LettersLeaping() {
        for (int s = 0; s < SHELVES; s++) {
            shelves[s] = new Shelf();
        }
    }

    // ---- shelves ----

    public int row(int s, int sort, int n) {
        if (!isShelf(s) || !isBelow(sort, SORTS) || !isWithin(n, 0, MOST_ELEMENTS)) {
            return refuse(BAD);
        }
        shelves[s].takeRow(sort, n);
        return 1;
    }

    public int set(int s, int i, long v) {
        int trouble = rowTrouble(s, s);
        if (trouble != FINE) {
            return refuse(trouble);
        }
        if (!isBelow(i, shelves[s].size)) {
            return refuse(BAD);
        }
        shelves[s].put(i, v);
        return 1;
    }

    public int copy(int p, int q, int i, int j, int n) {
        int trouble = rowTrouble(p, q);
        if (trouble != FINE) {
            return refuse(trouble);
        }
        Shelf from = shelves[p];
        Shelf to = shelves[q];
        if (from.sort != to.sort) {
            return refuse(OTHER);
        }
        if (!from.hasPart(i, n) || !to.hasPart(j, n)) {
            return refuse(BAD);
        }
        System.arraycopy(from.elements, i, to.elements, j, n);
        return n;
    }

    public long element(int s, int i) {
        return isShelf(s) ? shelves[s].at(i) : 0;
    }

    public int holds(int s) {
        if (!isShelf(s)) {
            return NONE;
        }
        Shelf shelf = shelves[s];
        return shelf.jetty == NONE ? shelf.sort : SHOWN_JETTY + shelf.jetty;
    }

    public int show(int s, int jetty) {
        if (!isShelf(s) || jetty != NONE && !isJetty(jetty)) {
            return refuse(BAD);
        }
        shelves[s].takeJetty(jetty);
        return 1;
    }

    public int says(int s, int kind) {
        if (!isShelf(s) || !isBelow(kind, KINDS)) {
            return refuse(BAD);
        }
        Shelf shelf = shelves[s];
        if (shelf.sort != NONE) {
            return refuse(OTHER);
        }
        if (!isJetty(shelf.jetty)) {
            return refuse(NOTHING);
        }
        Jetty shown = now.jetties[shelf.jetty];
        return shown.isOfKind(kind) ? saying(shown, kind) : refuse(OTHER);
    }

    private int saying(Jetty shown, int kind) {
        switch (kind) {
            case PIER:
            case STAIR:
                return shown.paces();
            case RAFT:
            case FLOAT:
                return shown.riseAt(now.level);
            case ROCK:
                return toNumber(shown.isWet);
            default:
                return shown.spot;
        }
    }

    // ---- jetties and the lake ----

    public int jetty(int kind, int spot, int length, int height) {
        if (!isBelow(kind, KINDS) || !isBelow(spot, SPOTS)
                || !isWithin(length, 1, MOST_LENGTH) || !isWithin(height, 0, MOST_HEIGHT)) {
            return refuse(BAD);
        }
        if (now.jettyCount >= MOST_JETTIES) {
            return refuse(FULL);
        }
        now.jetties[now.jettyCount].build(kind, spot, length, height);
        now.jettyCount++;
        return now.jettyCount - 1;
    }

    public int jettyOf(int jetty, int what) {
        if (!isJetty(jetty)) {
            return refuse(BAD);
        }
        Jetty asked = now.jetties[jetty];
        switch (what) {
            case 0:
                return asked.kind;
            case 1:
                return asked.spot;
            case 2:
                return asked.length;
            case 3:
                return asked.height;
            case 4:
                return asked.paces();
            case 5:
                return toNumber(asked.isWet);
            case 6:
                return toNumber(now.isOut(asked, now.level));
            case 7:
                return toNumber(now.hasTime(asked, now.speed()));
            default:
                return refuse(BAD);
        }
    }

    public int wet(int jetty, boolean is) {
        if (!isJetty(jetty)) {
            return refuse(BAD);
        }
        Jetty changed = now.jetties[jetty];
        boolean was = changed.isWet;
        changed.isWet = is;
        return toNumber(was);
    }

    public int rise(int jetty, int level) {
        if (!isJetty(jetty) || !isWithin(level, -MOST_LEVEL, MOST_LEVEL)) {
            return RISE_REFUSED + refuse(BAD);
        }
        return now.jetties[jetty].riseAt(level);
    }

    public int lake(int what, int v) {
        int was;
        if (what == 0 && isWithin(v, -MOST_LEVEL, MOST_LEVEL)) {
            was = now.level;
            now.level = v;
        } else if (what == 1 && isWithin(v, 0, MOST_GUESTS)) {
            was = now.guests;
            now.guests = v;
        } else if (what == 2 && isBelow(v, SPOTS)) {
            was = now.harbour;
            now.harbour = v;
        } else {
            return refuse(BAD);
        }
        return toNumber(was != v);
    }

    public int wind(int hour, int v) {
        if (!isHour(hour) || !isWithin(v, 0, MOST_WIND)) {
            return refuse(BAD);
        }
        int was = now.winds[hour];
        now.winds[hour] = v;
        return was;
    }

    public int winds(int s) {
        int trouble = rowTrouble(s, s);
        if (trouble != FINE) {
            return refuse(trouble);
        }
        int most = Math.min(HOURS, shelves[s].size);
        for (int hour = 0; hour < most; hour++) {
            long v = shelves[s].at(hour);
            if (v < 0 || v > MOST_WIND) {
                return hour;
            }
            now.winds[hour] = (int) v;
        }
        return most;
    }

    // ---- laws ----

    public int feed(int v, int n) {
        if (!isWithin(n, 1, 4)) {
            return refuse(BAD);
        }
        if (n > MOST_TAPE - tape.size) {
            return refuse(FULL);
        }
        tape.append(v, n);
        return tape.size;
    }

    public int wipe() {
        int was = tape.size;
        tape.size = 0;
        return was;
    }

    public int law() {
        if (now.lawCount >= MOST_LAWS) {
            return refuse(FULL);
        }
        // A law that is read with a fault is never counted, so it may be spoilt here.
        int fault = tape.readInto(now.laws[now.lawCount]);
        tape.size = 0;
        if (fault != NONE) {
            refuse(BAD);
            return LAW_REFUSED - fault;
        }
        now.lawCount++;
        return now.lawCount - 1;
    }

    public int lawOf(int law, int what) {
        if (!isLaw(law) || !isBelow(what, LAW_WORDS)) {
            return refuse(BAD);
        }
        return now.laws[law].values[what];
    }

    public int force(int law) {
        if (law != NONE && !isLaw(law)) {
            return refuse(BAD);
        }
        int was = now.lawInForce;
        now.lawInForce = law;
        return was;
    }

    // ---- leapers ----

    public int leaper(int skill) {
        if (!isWithin(skill, 0, MOST_SKILL)) {
            return refuse(BAD);
        }
        if (now.leaperCount >= MOST_LEAPERS) {
            return refuse(FULL);
        }
        now.leapers[now.leaperCount].join(skill);
        now.leaperCount++;
        return now.leaperCount - 1;
    }

    public int leaperOf(int leaper, int what) {
        if (!isLeaper(leaper)) {
            return refuse(BAD);
        }
        switch (what) {
            case 0:
                return now.leapers[leaper].skill;
            case 1:
                return now.leapers[leaper].leaps;
            case 2:
                return now.leapers[leaper].drops;
            default:
                return refuse(BAD);
        }
    }

    public int tried(int leaper, int n, int k) {
        if (!isLeaper(leaper) || !isWithin(n, 1, MOST_TRIED) || !isWithin(k, 0, n)) {
            return refuse(BAD);
        }
        now.leapers[leaper].count(n, k);
        return now.leapers[leaper].leaps;
    }

    public int learnt(int leaper) {
        return isLeaper(leaper) ? now.leapers[leaper].learntSkill() : refuse(BAD);
    }

    public int learn(int leaper) {
        if (!isLeaper(leaper)) {
            return refuse(BAD);
        }
        Leaper learner = now.leapers[leaper];
        int was = learner.skill;
        learner.skill = learner.learntSkill();
        return was;
    }

    // ---- leaps ----

    public int risk(int leaper, int jetty, int hour) {
        if (!isLeaper(leaper) || !isJetty(jetty) || !isHour(hour)) {
            return refuse(BAD);
        }
        return now.riskOf(leaper, jetty, hour);
    }

    public int calm(int leaper, int jetty) {
        if (!isLeaper(leaper) || !isJetty(jetty)) {
            return refuse(BAD);
        }
        int calmest = 0;
        int least = now.riskOf(leaper, jetty, 0);
        for (int hour = 1; hour < HOURS; hour++) {
            int here = now.riskOf(leaper, jetty, hour);
            if (here < least) {
                least = here;
                calmest = hour;
            }
        }
        return calmest;
    }

    public int safest(int jetty, int hour) {
        if (!isJetty(jetty) || !isHour(hour)) {
            return refuse(BAD);
        }
        if (now.leaperCount == 0) {
            return refuse(STUCK);
        }
        int safestOne = 0;
        int least = now.riskOf(0, jetty, hour);
        for (int leaper = 1; leaper < now.leaperCount; leaper++) {
            int hers = now.riskOf(leaper, jetty, hour);
            if (hers < least) {
                least = hers;
                safestOne = leaper;
            }
        }
        return safestOne;
    }

    // ---- rounds ----

    public int leg(int from, int to) {
        if (!isBelow(from, SPOTS) || !isBelow(to, SPOTS)) {
            return refuse(BAD);
        }
        return now.legMinutes(from, to, now.speed());
    }

    public int round(int leaper, int s, int n, int what) {
        if (!isLeaper(leaper) || !isWithin(what, 0, 2)) {
            return refuse(BAD);
        }
        int trouble = roundTrouble(s, n);
        if (trouble != FINE) {
            return refuse(trouble);
        }
        readTour(tour, s, n);
        if (what == 2) {
            return tour.hopeless(now);
        }
        tour.sail(now, now.speed(), NONE);
        return what == 0 ? tour.riskBy(now, leaper) : tour.end();
    }

    public int best(int leaper, int set, int end, int what) {
        if (!isLeaper(leaper) || !isSet(set) || !isWithin(end, 0, MOST_END)) {
            return refuse(BAD);
        }
        int place = what - FIRST_PLACE;
        boolean asksPlace = what >= FIRST_PLACE && place < Integer.bitCount(set);
        if (what != 0 && what != 1 && !asksPlace) {
            return refuse(BAD);
        }
        if (!orders.find(now, leaper, set, end)) {
            return refuse(STUCK);
        }
        if (asksPlace) {
            return orders.bestOrder[place];
        }
        return what == 0 ? orders.bestRisk : orders.bestEnd;
    }

    public int team(int set, int m, int hour, int what) {
        if (!isSet(set) || !isWithin(m, 1, MOST_SET) || !isHour(hour)
                || what != NONE && !isInSet(what, set)) {
            return refuse(BAD);
        }
        if (now.leaperCount * m < Integer.bitCount(set)) {
            return refuse(STUCK);
        }
        teams.find(now, set, m, hour);
        return what == NONE ? teams.bestSum : teams.leaperOfJetty(what);
    }

    public int missed(int leaper, int s, int n, int i, int what) {
        if (!isLeaper(leaper) || !isBelow(i, n) || !isWithin(what, 0, 2)) {
            return refuse(BAD);
        }
        int trouble = roundTrouble(s, n);
        if (trouble != FINE) {
            return refuse(trouble);
        }
        readTour(tour, s, n);
        tour.sail(now, now.speed(), i);
        if (what == 0) {
            return tour.end();
        }
        if (what == 1) {
            return tour.riskBy(now, leaper);
        }
        readTour(plainTour, s, n);
        plainTour.sail(now, now.speed(), NONE);
        return tour.laterHoursThan(plainTour);
    }

    public int pilot(int s, int n, int end) {
        if (!isWithin(end, 0, MOST_END)) {
            return refuse(BAD);
        }
        int trouble = roundTrouble(s, n);
        if (trouble != FINE) {
            return refuse(trouble);
        }
        readTour(tour, s, n);
        for (int speed = 1; speed <= TOP_SPEED; speed++) {
            tour.sail(now, speed, NONE);
            if (tour.end() <= end) {
                return speed;
            }
        }
        return NONE;
    }

    public int still(int s, int n) {
        int trouble = roundTrouble(s, n);
        if (trouble != FINE) {
            return refuse(trouble);
        }
        readTour(tour, s, n);
        for (int speed = TOP_SPEED; speed >= 1; speed--) {
            if (tour.hasTimeEverywhere(now, speed)) {
                return speed;
            }
        }
        return NONE;
    }

    // ---- letters and parcels ----

    public int lifts(int s, int n, int t, int k) {
        if (!isWithin(n, 0, MOST_ELEMENTS) || !isWithin(k, 0, MOST_ROUND)) {
            return refuse(BAD);
        }
        int trouble = rowTrouble(s, t);
        if (trouble != FINE) {
            return refuse(trouble);
        }
        if (!tellsJetties(s, n) || !tellsJetties(t, k)) {
            return refuse(BAD);
        }
        for (int i = 0; i < n; i++) {
            bag[i] = (int) shelves[s].at(i);
        }
        int left = n;
        int lifted = 0;
        for (int i = 0; i < k; i++) {
            int jetty = (int) shelves[t].at(i);
            int lowest = lowestLetter(jetty, left);
            left = takeLetters(jetty, left);
            // What lies from that place on now was above it, and is no letter of this jetty.
            lifted += left - lowest;
        }
        return lifted;
    }

    /** The place of a jetty's lowest letter among those left, or behind them all. */
    private int lowestLetter(int jetty, int left) {
        for (int i = 0; i < left; i++) {
            if (bag[i] == jetty) {
                return i;
            }
        }
        return left;
    }

    /** Takes a jetty's letters out, the others staying as they lay: how many are left. */
    private int takeLetters(int jetty, int left) {
        int stay = 0;
        for (int i = 0; i < left; i++) {
            if (bag[i] != jetty) {
                bag[stay] = bag[i];
                stay++;
            }
        }
        return stay;
    }

    public int parcel(int jetty, int minutes, int worth) {
        if (!isJetty(jetty) || !isWithin(minutes, 1, MOST_STOP)
                || !isWithin(worth, 1, MOST_WORTH)) {
            return refuse(BAD);
        }
        if (now.parcelCount >= MOST_PARCELS) {
            return refuse(FULL);
        }
        // No call tells a parcel's jetty again, so it isn't kept.
        now.parcelMinutes[now.parcelCount] = minutes;
        now.parcelWorths[now.parcelCount] = worth;
        now.parcelCount++;
        return now.parcelCount - 1;
    }

    public int stops(int minutes) {
        if (!isWithin(minutes, 0, MOST_STOPS)) {
            return refuse(BAD);
        }
        int chosen = 0;
        int greatest = 0;
        int sets = 1 << now.parcelCount;
        // Sets come in the order of their bits, so the first of the greatest worth is the least.
        for (int bits = 1; bits < sets; bits++) {
            int worth = now.worthWithin(bits, minutes);
            if (worth > greatest) {
                greatest = worth;
                chosen = bits;
            }
        }
        return chosen;
    }

    // ---- weeks ----

    public int firstOut(int v) {
        if (!isWithin(v, 1, MOST_FALL)) {
            return refuse(BAD);
        }
        int first = NONE;
        int earliest = LAST_WEEK + 1;
        for (int jetty = 0; jetty < now.jettyCount; jetty++) {
            int out = now.firstWeekOut(jetty, v);
            if (out != NONE && out < earliest) {
                earliest = out;
                first = jetty;
            }
        }
        return first;
    }

    public int week(int jetty, int v) {
        if (!isJetty(jetty) || !isWithin(v, 1, MOST_FALL)) {
            return refuse(BAD);
        }
        return now.firstWeekOut(jetty, v);
    }

    public int outs(int week, int v) {
        if (!isWithin(week, 0, LAST_WEEK) || !isWithin(v, 1, MOST_FALL)) {
            return refuse(BAD);
        }
        int bits = 0;
        for (int jetty = 0; jetty < now.jettyCount; jetty++) {
            if (now.isOut(now.jetties[jetty], now.level - week * v)) {
                bits |= 1 << jetty;
            }
        }
        return bits;
    }

    // ---- a round under way ----

    public int seed(int v) {
        int was = now.seed;
        now.seed = v;
        return was;
    }

    public int begin(int leaper, int s, int n) {
        if (!isLeaper(leaper)) {
            return refuse(BAD);
        }
        int trouble = roundTrouble(s, n);
        if (trouble != FINE) {
            return refuse(trouble);
        }
        readTour(tour, s, n);
        now.voyage.start(leaper, tour, now.harbour);
        return n;
    }

    public int step() {
        return now.voyage.isUnderWay() ? now.leapNext() : refuse(STUCK);
    }

    public int under(int what) {
        if (!isWithin(what, 0, 4)) {
            return refuse(BAD);
        }
        Voyage voyage = now.voyage;
        if (voyage.leaper == NONE) {
            return refuse(STUCK);
        }
        switch (what) {
            case 0:
                return voyage.leaper;
            case 1:
                return voyage.done;
            case 2:
                return voyage.goesOn;
            case 3:
                return voyage.drops;
            default:
                return voyage.misses;
        }
    }

    // ---- the whole ----

    public int image() {
        kept.become(now);
        isKept = true;
        return 1;
    }

    public int back() {
        if (!isKept) {
            return refuse(STUCK);
        }
        now.become(kept);
        for (int s = 0; s < SHELVES; s++) {
            if (shelves[s].jetty >= now.jettyCount) {
                shelves[s].takeJetty(NONE);
            }
        }
        return 1;
    }

    public int status(int what) {
        switch (what) {
            case 0:
                return now.jettyCount;
            case 1:
                return now.lawCount;
            case 2:
                return now.leaperCount;
            case 3:
                return now.parcelCount;
            case 4:
                return tape.size;
            case 5:
                return now.seed;
            case 6:
                return shelvesInUse();
            case 7:
                return now.guests;
            case 8:
                return now.harbour;
            default:
                return isWithin(what, 12, 16) ? refusals[what - 12] : NONE;
        }
    }

    private int shelvesInUse() {
        int used = 0;
        for (int s = 0; s < SHELVES; s++) {
            used += toNumber(!shelves[s].isEmpty());
        }
        return used;
    }

    // ---- what may be, and refusals ----

    private int refuse(int refusal) {
        int place = BAD - refusal;
        if (isBelow(place, REFUSALS)) {
            refusals[place]++;
        }
        return refusal;
    }

    /** What keeps two shelves from both giving rows (the same one twice, where one is wanted). */
    private int rowTrouble(int p, int q) {
        if (!isShelf(p) || !isShelf(q)) {
            return BAD;
        }
        if (shelves[p].jetty != NONE || shelves[q].jetty != NONE) {
            return OTHER;
        }
        return shelves[p].isEmpty() || shelves[q].isEmpty() ? NOTHING : FINE;
    }

    /** What keeps the first n elements of a shelf from being a round. */
    private int roundTrouble(int s, int n) {
        if (!isWithin(n, 0, MOST_ROUND)) {
            return BAD;
        }
        int trouble = rowTrouble(s, s);
        if (trouble != FINE) {
            return trouble;
        }
        return tellsJetties(s, n) ? FINE : BAD;
    }

    private boolean tellsJetties(int s, int n) {
        Shelf shelf = shelves[s];
        if (n > shelf.size) {
            return false;
        }
        for (int i = 0; i < n; i++) {
            long v = shelf.at(i);
            if (v < 0 || v >= now.jettyCount) {
                return false;
            }
        }
        return true;
    }

    private void readTour(Tour into, int s, int n) {
        into.count = n;
        for (int i = 0; i < n; i++) {
            into.jetties[i] = (int) shelves[s].at(i);
        }
    }

    private boolean isJetty(int jetty) {
        return isBelow(jetty, now.jettyCount);
    }

    private boolean isLeaper(int leaper) {
        return isBelow(leaper, now.leaperCount);
    }

    private boolean isLaw(int law) {
        return isBelow(law, now.lawCount);
    }

    private boolean isSet(int set) {
        int all = (1 << now.jettyCount) - 1;
        return (set & ~all) == 0 && Integer.bitCount(set) <= MOST_SET;
    }

    private boolean isInSet(int jetty, int set) {
        return isJetty(jetty) && (set >> jetty & 1) == 1;
    }

    private static boolean isShelf(int s) {
        return isBelow(s, SHELVES);
    }

    private static boolean isHour(int hour) {
        return isBelow(hour, HOURS);
    }

    private static boolean isBelow(int v, int bound) {
        return v >= 0 && v < bound;
    }

    private static boolean isWithin(int v, int least, int most) {
        return v >= least && v <= most;
    }

    // ---- numbers ----

    private static int toNumber(boolean is) {
        return is ? 1 : 0;
    }

    /** a by b, cut; 0 for a divisor that no limit of the document lets be. */
    private static int cutBy(int a, int b) {
        return b < 1 ? 0 : a / b;
    }

    /** a (0 on) by b, rounded up. */
    private static int roundedUpBy(int a, int b) {
        return b < 1 ? 0 : (a + b - 1) / b;
    }

    private static int hourOf(int minute) {
        return Math.min(HOURS - 1, minute / MINUTES_OF_AN_HOUR);
    }

    /** Writes the numbers of a set's jetties in their order: how many. */
    private static int readSet(int set, int[] into) {
        int count = 0;
        for (int jetty = 0; jetty < MOST_JETTIES && count < into.length; jetty++) {
            if ((set >> jetty & 1) == 1) {
                into[count] = jetty;
                count++;
            }
        }
        return count;
    }

    /** A shelf: a row (it has a sort), a jetty (it has a number), or nothing. */
    static final class Shelf {
        int sort = NONE;
        int size;
        int jetty = NONE;
        final long[] elements = new long[MOST_ELEMENTS];

        boolean isEmpty() {
            return sort == NONE && jetty == NONE;
        }

        void takeRow(int newSort, int n) {
            sort = newSort;
            size = n;
            jetty = NONE;
            for (int i = 0; i < elements.length; i++) {
                elements[i] = 0;
            }
        }

        /** NONE for the jetty leaves nothing on the shelf. */
        void takeJetty(int number) {
            sort = NONE;
            size = 0;
            jetty = number;
        }

        boolean hasPart(int from, int n) {
            return from >= 0 && n >= 0 && from <= size && n <= size - from;
        }

        long at(int i) {
            return isBelow(i, size) ? elements[i] : 0;
        }

        void put(int i, long v) {
            if (isBelow(i, size)) {
                elements[i] = lowestBits(v);
            }
        }

        private long lowestBits(long v) {
            switch (sort) {
                case 0:
                    return (byte) v;
                case 1:
                    return (short) v;
                case 2:
                    return (int) v;
                case 3:
                    return v;
                default:
                    return v != 0 ? 1 : 0;
            }
        }
    }

    static final class Jetty {
        int kind;
        int spot;
        int length;
        int height;
        boolean isWet;

        void build(int newKind, int newSpot, int newLength, int newHeight) {
            kind = newKind;
            spot = newSpot;
            length = newLength;
            height = newHeight;
            isWet = false;
        }

        void become(Jetty other) {
            build(other.kind, other.spot, other.length, other.height);
            isWet = other.isWet;
        }

        boolean isOfKind(int wanted) {
            int above = kind;
            for (int depth = 0; depth < KINDS && isBelow(above, KINDS); depth++) {
                if (above == wanted) {
                    return true;
                }
                above = KIND_ABOVE[above];
            }
            return false;
        }

        int riseAt(int level) {
            switch (kind) {
                case PIER:
                    return height - level - 10;
                case STAIR:
                    return Math.max(0, height - level - 10);
                case RAFT:
                    return height;
                case FLOAT:
                    return height / 2;
                default:
                    return height - level;
            }
        }

        int paces() {
            switch (kind) {
                case PIER:
                    return 2 * length;
                case STAIR:
                    return 2 * length + 4;
                case FLOAT:
                    return length + 2;
                case ROCK:
                    return 1;
                default:
                    return length;
            }
        }
    }

    static final class Law {
        final int[] values = new int[LAW_WORDS];

        Law() {
            reset();
        }

        void reset() {
            System.arraycopy(LAW_AT_FIRST, 0, values, 0, LAW_WORDS);
        }

        void become(Law other) {
            System.arraycopy(other.values, 0, values, 0, LAW_WORDS);
        }
    }

    /** The tape, and the reading of a law from it. */
    static final class Tape {
        final byte[] bytes = new byte[MOST_TAPE];
        int size;
        private int place;

        void append(int v, int n) {
            for (int k = n - 1; k >= 0 && size < bytes.length; k--) {
                bytes[size] = (byte) (v >> 8 * k);
                size++;
            }
        }

        /** Reads the whole tape as a law: NONE, or the fault's place. */
        int readInto(Law law) {
            law.reset();
            place = 0;
            // Every statement takes bytes, so there are fewer of them than the tape is long.
            for (int statement = 0; statement < MOST_TAPE; statement++) {
                skipBlanks();
                int what = readWord();
                if (what == NONE) {
                    return place;
                }
                skipBlanks();
                int numberPlace = place;
                int number = readNumber();
                if (!isWithin(number, LAW_LEAST[what], LAW_MOST[what])) {
                    return numberPlace;
                }
                law.values[what] = number;
                skipBlanks();
                if (place >= size) {
                    return NONE;
                }
                if (bytes[place] != ';') {
                    return place;
                }
                place++;
            }
            return place;
        }

        private void skipBlanks() {
            while (place < size && bytes[place] == ' ') {
                place++;
            }
        }

        /** Which word of a law stands here; it stays in front of any other thing. */
        private int readWord() {
            int end = endOfRun('a', 'z');
            for (int what = 0; what < LAW_WORDS; what++) {
                if (stands(lawWord(what), end)) {
                    place = end;
                    return what;
                }
            }
            return NONE;
        }

        /** The number that stands here; NONE without one, or for one of too many digits. */
        private int readNumber() {
            int end = endOfRun('0', '9');
            int digits = end - place;
            if (digits < 1 || digits > 2) {
                return NONE;
            }
            int number = 0;
            while (place < end) {
                number = 10 * number + bytes[place] - '0';
                place++;
            }
            return number;
        }

        private int endOfRun(char least, char most) {
            int end = place;
            while (end < size && bytes[end] >= least && bytes[end] <= most) {
                end++;
            }
            return end;
        }

        private boolean stands(String word, int end) {
            if (word.length() != end - place) {
                return false;
            }
            for (int i = 0; i < word.length(); i++) {
                if (word.charAt(i) != bytes[place + i]) {
                    return false;
                }
            }
            return true;
        }

        private static String lawWord(int what) {
            switch (what) {
                case BOAT:
                    return "boat";
                case SPEED:
                    return "speed";
                case PACE:
                    return "pace";
                case BOX:
                    return "box";
                case HIGH:
                    return "high";
                case WET:
                    return "wet";
                case WIND:
                    return "wind";
                case SKILL:
                    return "skill";
                default:
                    return "leg";
            }
        }
    }

    static final class Leaper {
        int skill;
        int leaps;
        int drops;

        void join(int newSkill) {
            skill = newSkill;
            leaps = 0;
            drops = 0;
        }

        void become(Leaper other) {
            skill = other.skill;
            leaps = other.leaps;
            drops = other.drops;
        }

        void count(int moreLeaps, int moreDrops) {
            leaps += moreLeaps;
            drops += moreDrops;
        }

        int learntSkill() {
            return Math.min(MOST_SKILL, cutBy(100 * (leaps - drops) + 50, leaps + 1));
        }
    }

    /** A round as a row tells it, and in which minute the boat comes to each of its jetties. */
    static final class Tour {
        final int[] jetties = new int[MOST_ROUND];
        private final int[] comes = new int[MOST_ROUND];
        int count;

        /** missAt: the place at which she falls in, or NONE. */
        void sail(Lake lake, int speed, int missAt) {
            int spot = lake.harbour;
            int goesOn = 0;
            for (int i = 0; i < count; i++) {
                int next = lake.jetties[jetties[i]].spot;
                comes[i] = goesOn + lake.legMinutes(spot, next, speed);
                goesOn = comes[i] + 1;
                if (i == missAt) {
                    goesOn += MISS_TURNS * speed;
                }
                spot = next;
            }
        }

        int end() {
            return count < 1 ? 0 : comes[count - 1];
        }

        int riskBy(Lake lake, int leaper) {
            int sum = 0;
            for (int i = 0; i < count; i++) {
                sum += lake.riskOf(leaper, jetties[i], hourOf(comes[i]));
            }
            return sum;
        }

        /** How many of its jetties are out, or leave no time. */
        int hopeless(Lake lake) {
            int sum = 0;
            for (int i = 0; i < count; i++) {
                sum += toNumber(lake.isHopeless(lake.jetties[jetties[i]]));
            }
            return sum;
        }

        boolean hasTimeEverywhere(Lake lake, int speed) {
            for (int i = 0; i < count; i++) {
                if (!lake.hasTime(lake.jetties[jetties[i]], speed)) {
                    return false;
                }
            }
            return true;
        }

        int laterHoursThan(Tour other) {
            int later = 0;
            for (int i = 0; i < count; i++) {
                later += toNumber(hourOf(comes[i]) > hourOf(other.comes[i]));
            }
            return later;
        }
    }

    /** The round under way; without a leaper until one is begun. */
    static final class Voyage {
        int leaper = NONE;
        final int[] jetties = new int[MOST_ROUND];
        int count;
        int spot;
        int goesOn;
        int done;
        int drops;
        int misses;

        void start(int newLeaper, Tour tour, int harbour) {
            leaper = newLeaper;
            count = tour.count;
            System.arraycopy(tour.jetties, 0, jetties, 0, MOST_ROUND);
            spot = harbour;
            goesOn = 0;
            done = 0;
            drops = 0;
            misses = 0;
        }

        void become(Voyage other) {
            leaper = other.leaper;
            count = other.count;
            System.arraycopy(other.jetties, 0, jetties, 0, MOST_ROUND);
            spot = other.spot;
            goesOn = other.goesOn;
            done = other.done;
            drops = other.drops;
            misses = other.misses;
        }

        boolean isUnderWay() {
            return leaper != NONE && done < count;
        }
    }

    /** All that image() keeps. */
    static final class Lake {
        final Jetty[] jetties = new Jetty[MOST_JETTIES];
        int jettyCount;
        final Law[] laws = new Law[MOST_LAWS];
        int lawCount;
        int lawInForce = NONE;
        final Leaper[] leapers = new Leaper[MOST_LEAPERS];
        int leaperCount;
        final int[] parcelMinutes = new int[MOST_PARCELS];
        final int[] parcelWorths = new int[MOST_PARCELS];
        int parcelCount;
        final int[] winds = new int[HOURS];
        int level;
        int guests;
        int harbour;
        int seed = 1;
        final Voyage voyage = new Voyage();

        Lake() {
            for (int i = 0; i < MOST_JETTIES; i++) {
                jetties[i] = new Jetty();
            }
            for (int i = 0; i < MOST_LAWS; i++) {
                laws[i] = new Law();
            }
            for (int i = 0; i < MOST_LEAPERS; i++) {
                leapers[i] = new Leaper();
            }
        }

        void become(Lake other) {
            becomeCounted(other);
            System.arraycopy(other.winds, 0, winds, 0, HOURS);
            lawInForce = other.lawInForce;
            level = other.level;
            guests = other.guests;
            harbour = other.harbour;
            seed = other.seed;
            voyage.become(other.voyage);
        }

        private void becomeCounted(Lake other) {
            jettyCount = other.jettyCount;
            for (int i = 0; i < jettyCount; i++) {
                jetties[i].become(other.jetties[i]);
            }
            lawCount = other.lawCount;
            for (int i = 0; i < lawCount; i++) {
                laws[i].become(other.laws[i]);
            }
            leaperCount = other.leaperCount;
            for (int i = 0; i < leaperCount; i++) {
                leapers[i].become(other.leapers[i]);
            }
            parcelCount = other.parcelCount;
            System.arraycopy(other.parcelMinutes, 0, parcelMinutes, 0, MOST_PARCELS);
            System.arraycopy(other.parcelWorths, 0, parcelWorths, 0, MOST_PARCELS);
        }

        private int lawValue(int what) {
            boolean isForced = lawInForce >= 0 && lawInForce < lawCount;
            return isForced ? laws[lawInForce].values[what] : LAW_AT_FIRST[what];
        }

        int speed() {
            return lawValue(SPEED);
        }

        private int deck() {
            return 20 - guests / 4;
        }

        boolean isOut(Jetty jetty, int atLevel) {
            return Math.abs(jetty.riseAt(atLevel) - deck()) > 60;
        }

        boolean hasTime(Jetty jetty, int speed) {
            int run = roundedUpBy(2 * jetty.paces(), lawValue(PACE)) + lawValue(BOX);
            return run <= cutBy(lawValue(BOAT), speed);
        }

        boolean isHopeless(Jetty jetty) {
            return isOut(jetty, level) || !hasTime(jetty, speed());
        }

        int riskOf(int leaper, int jetty, int hour) {
            Jetty at = jetties[jetty];
            if (isHopeless(at)) {
                return MOST_RISK;
            }
            int risk = lawValue(HIGH) * Math.abs(at.riseAt(level) - deck())
                    + (at.isWet ? lawValue(WET) : 0)
                    + lawValue(WIND) * winds[hour]
                    - lawValue(SKILL) * leapers[leaper].skill;
            return Math.max(0, Math.min(MOST_RISK, risk));
        }

        int legMinutes(int from, int to, int speed) {
            int rows = Math.abs(from / SPOTS_IN_A_ROW - to / SPOTS_IN_A_ROW);
            int columns = Math.abs(from % SPOTS_IN_A_ROW - to % SPOTS_IN_A_ROW);
            return roundedUpBy(lawValue(LEG) * (rows + columns), speed);
        }

        int firstWeekOut(int jetty, int fall) {
            for (int week = 0; week <= LAST_WEEK; week++) {
                if (isOut(jetties[jetty], level - week * fall)) {
                    return week;
                }
            }
            return NONE;
        }

        /** The worth of a set of parcels; NONE if it takes more than so many minutes. */
        int worthWithin(int bits, int minutes) {
            int worth = 0;
            int left = minutes;
            for (int parcel = 0; parcel < parcelCount; parcel++) {
                if ((bits >> parcel & 1) == 1) {
                    worth += parcelWorths[parcel];
                    left -= parcelMinutes[parcel];
                }
            }
            return left < 0 ? NONE : worth;
        }

        private int drawBelow(int n) {
            seed = seed * 1103515245 + 12345;
            int upper = seed >>> 16;
            return n < 1 ? 0 : upper % n;
        }

        /** The next leap of the round under way: 0 in the box, 1 a drop, 2 a miss. */
        int leapNext() {
            int jetty = voyage.jetties[voyage.done];
            int spot = jetties[jetty].spot;
            int comes = voyage.goesOn + legMinutes(voyage.spot, spot, speed());
            int risk = riskOf(voyage.leaper, jetty, hourOf(comes));
            int draw = drawBelow(MOST_RISK);
            voyage.spot = spot;
            voyage.goesOn = comes + 1;
            voyage.done++;
            Leaper leaper = leapers[voyage.leaper];
            if (draw < risk / 10) {
                voyage.goesOn += MISS_TURNS * speed();
                voyage.misses++;
                leaper.count(1, 1);
                return 2;
            }
            if (draw < risk) {
                voyage.drops++;
                leaper.count(1, 1);
                return 1;
            }
            leaper.count(1, 0);
            return 0;
        }
    }

    /** Looks for the best order of a set of jetties. */
    static final class OrderSearch {
        final int[] bestOrder = new int[MOST_SET];
        int bestRisk;
        int bestEnd;
        private Lake lake;
        private int leaper;
        private int latest;
        private int count;
        private final int[] jetties = new int[MOST_SET];
        private final boolean[] isUsed = new boolean[MOST_SET];
        private final int[] order = new int[MOST_SET];

        boolean find(Lake newLake, int newLeaper, int set, int newLatest) {
            lake = newLake;
            leaper = newLeaper;
            latest = newLatest;
            count = readSet(set, jetties);
            bestRisk = ABOVE_ALL;
            bestEnd = ABOVE_ALL;
            extend(this, 0, lake.harbour, 0, 0);
            return bestRisk != ABOVE_ALL;
        }

        /**
         * Tries all jetties not used yet for a place. Orders come by their jetties' numbers, so
         * only one that is better than the best so far takes its place; and as risk and end only
         * grow, a beginning that isn't better can be left.
         */
        private static void extend(OrderSearch s, int place, int spot, int goesOn, int risk) {
            if (place >= s.count) {
                s.keep(risk, Math.max(0, goesOn - 1));
                return;
            }
            for (int i = 0; i < s.count; i++) {
                if (s.isUsed[i]) {
                    continue;
                }
                int next = s.lake.jetties[s.jetties[i]].spot;
                int comes = goesOn + s.lake.legMinutes(spot, next, s.lake.speed());
                int sum = risk + s.lake.riskOf(s.leaper, s.jetties[i], hourOf(comes));
                if (comes <= s.latest && s.isBetter(sum, comes)) {
                    s.isUsed[i] = true;
                    s.order[place] = s.jetties[i];
                    extend(s, place + 1, next, comes + 1, sum);
                    s.isUsed[i] = false;
                }
            }
        }

        private boolean isBetter(int risk, int end) {
            return risk < bestRisk || risk == bestRisk && end < bestEnd;
        }

        private void keep(int risk, int end) {
            bestRisk = risk;
            bestEnd = end;
            System.arraycopy(order, 0, bestOrder, 0, count);
        }
    }

    /** Looks for the team: a leaper for each jetty of a set. */
    static final class TeamSearch {
        int bestSum;
        private int leaperCount;
        private int most;
        private int count;
        private final int[] jetties = new int[MOST_SET];
        private final int[] risks = new int[MOST_SET * MOST_LEAPERS];
        private final int[] leastFrom = new int[MOST_SET + 1];
        private final int[] loads = new int[MOST_LEAPERS];
        private final int[] chosen = new int[MOST_SET];
        private final int[] bestChosen = new int[MOST_SET];

        void find(Lake lake, int set, int newMost, int hour) {
            most = newMost;
            leaperCount = lake.leaperCount;
            count = readSet(set, jetties);
            readRisks(lake, hour);
            bestSum = ABOVE_ALL;
            assign(this, 0, 0);
        }

        int leaperOfJetty(int jetty) {
            for (int place = 0; place < count; place++) {
                if (jetties[place] == jetty) {
                    return bestChosen[place];
                }
            }
            return NONE;
        }

        private void readRisks(Lake lake, int hour) {
            leastFrom[count] = 0;
            for (int place = count - 1; place >= 0; place--) {
                int least = MOST_RISK;
                for (int leaper = 0; leaper < leaperCount; leaper++) {
                    int risk = lake.riskOf(leaper, jetties[place], hour);
                    risks[place * MOST_LEAPERS + leaper] = risk;
                    least = Math.min(least, risk);
                }
                leastFrom[place] = leastFrom[place + 1] + least;
            }
        }

        /**
         * Tries all leapers for a place. Teams come by their leapers' numbers, so only a lesser
         * sum takes the best one's place, and what can't become lesser can be left.
         */
        private static void assign(TeamSearch s, int place, int sum) {
            if (place >= s.count) {
                s.bestSum = sum;
                System.arraycopy(s.chosen, 0, s.bestChosen, 0, s.count);
                return;
            }
            for (int leaper = 0; leaper < s.leaperCount; leaper++) {
                int more = sum + s.risks[place * MOST_LEAPERS + leaper];
                if (s.loads[leaper] < s.most && more + s.leastFrom[place + 1] < s.bestSum) {
                    s.loads[leaper]++;
                    s.chosen[place] = leaper;
                    assign(s, place + 1, more);
                    s.loads[leaper]--;
                }
            }
        }
    }
}
