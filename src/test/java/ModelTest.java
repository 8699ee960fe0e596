import java.util.ArrayList;
import java.util.Arrays;
import java.util.Collections;
import java.util.List;
import java.util.Random;
import java.util.TreeSet;
import java.util.function.IntUnaryOperator;
import java.util.regex.Matcher;
import java.util.regex.Pattern;

/**
 * Random runs of calls, each answered by the class and by a plain model that tries everything:
 * all orders, all teams, all sets, and texts read by patterns.
 */
public final class ModelTest {
    private static final int BAD = -2;
    private static final int OTHER = -3;
    private static final int NOTHING = -4;
    private static final int STUCK = -5;
    private static final int FULL = -6;

    /** Ends a call of the model. */
    private static final class Refusal extends RuntimeException {
        private static final long serialVersionUID = 1;
        final int code;

        Refusal(int code) {
            super(null, null, false, false);
            this.code = code;
        }
    }

    private static void need(boolean is, int code) {
        if (!is) {
            throw new Refusal(code);
        }
    }

    private static final class Jetty {
        int kind, spot, length, height;
        boolean wet;

        Jetty(int kind, int spot, int length, int height, boolean wet) {
            this.kind = kind;
            this.spot = spot;
            this.length = length;
            this.height = height;
            this.wet = wet;
        }

        int rise(int level) {
            int dry = height - level;
            int[] by = {dry, dry - 10, Math.max(dry - 10, 0), height, height / 2, dry};
            return by[kind];
        }

        int paces() {
            int[] by = {length, 2 * length, 2 * length + 4, length, length + 2, 1};
            return by[kind];
        }
    }

    /** What image() keeps. */
    private static final class State {
        List<Jetty> jetties = new ArrayList<>();
        List<int[]> laws = new ArrayList<>();
        List<int[]> leapers = new ArrayList<>();
        List<int[]> parcels = new ArrayList<>();
        int[] winds = new int[12];
        int level, guests, harbour, seed = 1, forced = -1;
        int[] voyage;
        List<Integer> way = List.of();
        int voyageSpot;

        State copy() {
            State s = new State();
            jetties.forEach(j -> s.jetties.add(new Jetty(j.kind, j.spot, j.length, j.height, j.wet)));
            laws.forEach(l -> s.laws.add(l.clone()));
            leapers.forEach(l -> s.leapers.add(l.clone()));
            parcels.forEach(p -> s.parcels.add(p.clone()));
            s.winds = winds.clone();
            s.level = level;
            s.guests = guests;
            s.harbour = harbour;
            s.seed = seed;
            s.forced = forced;
            s.voyage = voyage == null ? null : voyage.clone();
            s.way = way;
            s.voyageSpot = voyageSpot;
            return s;
        }

        int law(int what) {
            int[] first = {40, 4, 5, 3, 3, 40, 20, 4, 2};
            return forced < 0 ? first[what] : laws.get(forced)[what];
        }

        int deck() {
            return 20 - guests / 4;
        }

        boolean out(int jetty, int atLevel) {
            int above = jetties.get(jetty).rise(atLevel) - deck();
            return above > 60 || above < -60;
        }

        boolean time(int jetty, int speed) {
            double run = Math.ceil(2.0 * jetties.get(jetty).paces() / law(2));
            return run + law(3) <= Math.floor(law(0) / (double) speed);
        }

        int risk(int leaper, int jetty, int hour) {
            if (out(jetty, level) || !time(jetty, law(1))) {
                return 1000;
            }
            int sum = law(4) * Math.abs(jetties.get(jetty).rise(level) - deck());
            sum += jetties.get(jetty).wet ? law(5) : 0;
            sum += law(6) * winds[hour];
            sum -= law(7) * leapers.get(leaper)[0];
            return sum < 0 ? 0 : sum > 1000 ? 1000 : sum;
        }

        int leg(int a, int b, int speed) {
            int far = Math.abs((a >> 4) - (b >> 4)) + Math.abs((a & 15) - (b & 15));
            return (int) Math.ceil(law(8) * far / (double) speed);
        }

        /** The minutes in which the boat comes to each of a round's jetties. */
        int[] minutes(List<Integer> round, int speed, int miss) {
            int[] at = new int[round.size()];
            for (int i = 0; i < at.length; i++) {
                int from = i == 0 ? harbour : jetties.get(round.get(i - 1)).spot;
                int leaves = i == 0 ? 0 : at[i - 1] + 1 + (miss == i - 1 ? 3 * speed : 0);
                at[i] = leaves + leg(from, jetties.get(round.get(i)).spot, speed);
            }
            return at;
        }

        int riskOf(int leaper, List<Integer> round, int[] minutes) {
            int sum = 0;
            for (int i = 0; i < minutes.length; i++) {
                sum += risk(leaper, round.get(i), hour(minutes[i]));
            }
            return sum;
        }
    }

    private static int hour(int minute) {
        return minute >= 660 ? 11 : minute / 60;
    }

    private static int last(int[] minutes) {
        return minutes.length == 0 ? 0 : minutes[minutes.length - 1];
    }

    /** The model of the whole object. */
    private static final class Model {
        State now = new State();
        State kept;
        String tape = "";
        /** null: nothing; an Integer: a jetty; a long[]: a row, its sort at place 0. */
        Object[] shelves = new Object[8];
        int[] refused = new int[5];

        private void shelf(int s) {
            need(s >= 0 && s <= 7, BAD);
        }

        private void leaper(int l) {
            need(l >= 0 && l < now.leapers.size(), BAD);
        }

        private void jetty(int j) {
            need(j >= 0 && j < now.jetties.size(), BAD);
        }

        private void within(long v, long least, long most) {
            need(v >= least && v <= most, BAD);
        }

        private long[] row(int s) {
            need(!(shelves[s] instanceof Integer), OTHER);
            need(shelves[s] != null, NOTHING);
            return (long[]) shelves[s];
        }

        private List<Integer> jettiesOf(long[] row, int n) {
            need(row.length - 1 >= n, BAD);
            List<Integer> round = new ArrayList<>();
            for (int i = 1; i <= n; i++) {
                within(row[i], 0, now.jetties.size() - 1);
                round.add((int) row[i]);
            }
            return round;
        }

        private TreeSet<Integer> set(int bits) {
            TreeSet<Integer> set = new TreeSet<>();
            for (int i = 0; i < 32; i++) {
                if ((bits & (1 << i)) != 0) {
                    set.add(i);
                }
            }
            need(set.isEmpty() || set.last() < now.jetties.size(), BAD);
            need(set.size() <= 6, BAD);
            return set;
        }

        long call(String name, long[] a) {
            int[] b = new int[5];
            for (int i = 0; i < a.length; i++) {
                b[i] = (int) a[i];
            }
            try {
                return answer(name, b, a.length > 2 ? a[2] : 0);
            } catch (Refusal r) {
                if (r.code <= -20) {
                    refused[0]++;
                } else {
                    refused[-2 - r.code]++;
                    if (name.equals("rise")) {
                        return -1000 + r.code;
                    }
                }
                return r.code;
            }
        }

        private long answer(String name, int[] a, long v) {
            switch (name) {
                case "row": shelf(a[0]); within(a[1], 0, 4); within(a[2], 0, 40);
                    long[] made = new long[a[2] + 1]; made[0] = a[1]; shelves[a[0]] = made; return 1;
                case "set": return set(a[0], a[1], v);
                case "copy": return copy(a);
                case "element":
                    if (a[0] < 0 || a[0] > 7 || !(shelves[a[0]] instanceof long[])) { return 0; }
                    long[] r = (long[]) shelves[a[0]];
                    return a[1] < 0 || a[1] >= r.length - 1 ? 0 : r[a[1] + 1];
                case "holds":
                    if (a[0] < 0 || a[0] > 7 || shelves[a[0]] == null) { return -1; }
                    return shelves[a[0]] instanceof Integer ? 10 + (Integer) shelves[a[0]] : ((long[]) shelves[a[0]])[0];
                case "show": shelf(a[0]);
                    if (a[1] != -1) { jetty(a[1]); }
                    shelves[a[0]] = a[1] == -1 ? null : (Object) a[1]; return 1;
                case "says": return says(a[0], a[1]);
                case "jetty": within(a[0], 0, 5); within(a[1], 0, 255); within(a[2], 1, 30); within(a[3], 0, 99);
                    need(now.jetties.size() < 20, FULL);
                    now.jetties.add(new Jetty(a[0], a[1], a[2], a[3], false)); return now.jetties.size() - 1;
                case "jettyOf": return jettyOf(a[0], a[1]);
                case "wet": jetty(a[0]);
                    int was = now.jetties.get(a[0]).wet ? 1 : 0; now.jetties.get(a[0]).wet = a[1] != 0; return was;
                case "rise": jetty(a[0]); within(a[1], -50, 50); return now.jetties.get(a[0]).rise(a[1]);
                case "lake": return lake(a[0], a[1]);
                case "wind": within(a[0], 0, 11); within(a[1], 0, 9);
                    int old = now.winds[a[0]]; now.winds[a[0]] = a[1]; return old;
                case "winds": shelf(a[0]); return winds(row(a[0]));
                case "feed": return feed(a[0], a[1]);
                case "wipe": int size = tape.length(); tape = ""; return size;
                case "law": return law();
                case "lawOf": within(a[0], 0, now.laws.size() - 1); within(a[1], 0, 8); return now.laws.get(a[0])[a[1]];
                case "force": within(a[0], -1, now.laws.size() - 1);
                    int forced = now.forced; now.forced = a[0]; return forced;
                default: return answerMore(name, a);
            }
        }

        private long answerMore(String name, int[] a) {
            switch (name) {
                case "leaper": within(a[0], 0, 99); need(now.leapers.size() < 6, FULL);
                    now.leapers.add(new int[] {a[0], 0, 0}); return now.leapers.size() - 1;
                case "leaperOf": leaper(a[0]); within(a[1], 0, 2); return now.leapers.get(a[0])[a[1]];
                case "tried": leaper(a[0]); within(a[1], 1, 99); within(a[2], 0, a[1]);
                    now.leapers.get(a[0])[1] += a[1]; now.leapers.get(a[0])[2] += a[2]; return now.leapers.get(a[0])[1];
                case "learnt": leaper(a[0]); return learnt(a[0]);
                case "learn": leaper(a[0]);
                    int was = now.leapers.get(a[0])[0]; now.leapers.get(a[0])[0] = learnt(a[0]); return was;
                case "risk": leaper(a[0]); jetty(a[1]); within(a[2], 0, 11); return now.risk(a[0], a[1], a[2]);
                case "calm": leaper(a[0]); jetty(a[1]);
                    return least(12, h -> now.risk(a[0], a[1], h));
                case "leg": within(a[0], 0, 255); within(a[1], 0, 255); return now.leg(a[0], a[1], now.law(1));
                case "round": leaper(a[0]); shelf(a[1]); within(a[2], 0, 20); within(a[3], 0, 2);
                    return round(a[0], jettiesOf(row(a[1]), a[2]), a[3]);
                case "best": return best(a[0], a[1], a[2], a[3]);
                case "team": return team(a[0], a[1], a[2], a[3]);
                case "safest": jetty(a[0]); within(a[1], 0, 11); need(!now.leapers.isEmpty(), STUCK);
                    return least(now.leapers.size(), l -> now.risk(l, a[0], a[1]));
                case "missed": leaper(a[0]); shelf(a[1]); within(a[2], 0, 20); within(a[3], 0, a[2] - 1); within(a[4], 0, 2);
                    return missed(a[0], jettiesOf(row(a[1]), a[2]), a[3], a[4]);
                case "pilot": shelf(a[0]); within(a[1], 0, 20); within(a[2], 0, 999);
                    return pilot(jettiesOf(row(a[0]), a[1]), a[2]);
                case "still": shelf(a[0]); within(a[1], 0, 20); return still(jettiesOf(row(a[0]), a[1]));
                case "lifts": shelf(a[0]); shelf(a[2]); within(a[1], 0, 40); within(a[3], 0, 20); return lifts(a);
                case "parcel": jetty(a[0]); within(a[1], 1, 60); within(a[2], 1, 99); need(now.parcels.size() < 10, FULL);
                    now.parcels.add(new int[] {a[1], a[2]}); return now.parcels.size() - 1;
                case "stops": within(a[0], 0, 600); return stops(a[0]);
                case "firstOut": within(a[0], 1, 20); return firstOut(a[0]);
                case "week": jetty(a[0]); within(a[1], 1, 20); return week(a[0], a[1]);
                case "outs": within(a[0], 0, 20); within(a[1], 1, 20); return outs(a[0], a[1]);
                case "seed": int seed = now.seed; now.seed = a[0]; return seed;
                case "begin": leaper(a[0]); shelf(a[1]); within(a[2], 0, 20);
                    now.way = jettiesOf(row(a[1]), a[2]); now.voyage = new int[] {a[0], 0, 0, 0, 0};
                    now.voyageSpot = now.harbour; return a[2];
                case "step": return step();
                case "under": within(a[0], 0, 4); need(now.voyage != null, STUCK); return now.voyage[a[0]];
                case "image": kept = now.copy(); return 1;
                case "back": return back();
                case "status": return status(a[0]);
                default: throw new IllegalStateException(name);
            }
        }

        private static int least(int n, IntUnaryOperator by) {
            int least = 0;
            for (int i = 1; i < n; i++) {
                least = by.applyAsInt(i) < by.applyAsInt(least) ? i : least;
            }
            return least;
        }

        private int set(int s, int i, long v) {
            shelf(s);
            long[] row = row(s);
            within(i, 0, row.length - 2);
            long[] kept = {(byte) v, (short) v, (int) v, v, v == 0 ? 0 : 1};
            row[i + 1] = kept[(int) row[0]];
            return 1;
        }

        private int copy(int[] a) {
            shelf(a[0]);
            shelf(a[1]);
            need(!(shelves[a[0]] instanceof Integer) && !(shelves[a[1]] instanceof Integer), OTHER);
            if (shelves[a[0]] != null && shelves[a[1]] != null) {
                need(row(a[0])[0] == row(a[1])[0], OTHER);
            }
            long[] from = row(a[0]).clone();
            long[] to = row(a[1]);
            within(a[2], 0, 40);
            within(a[3], 0, 40);
            within(a[4], 0, 40);
            within(a[2] + a[4], 0, from.length - 1);
            within(a[3] + a[4], 0, to.length - 1);
            for (int i = 0; i < a[4]; i++) {
                to[1 + a[3] + i] = from[1 + a[2] + i];
            }
            return a[4];
        }

        private int says(int s, int kind) {
            shelf(s);
            within(kind, 0, 5);
            need(!(shelves[s] instanceof long[]), OTHER);
            need(shelves[s] != null, NOTHING);
            Jetty j = now.jetties.get((Integer) shelves[s]);
            String[] lines = {"0", "10", "210", "30", "430", "50"};
            need(lines[j.kind].indexOf('0' + kind) >= 0, OTHER);
            int[] by = {j.spot, j.paces(), j.paces(), j.rise(now.level), j.rise(now.level), j.wet ? 1 : 0};
            return by[kind];
        }

        private int jettyOf(int jetty, int what) {
            jetty(jetty);
            within(what, 0, 7);
            Jetty j = now.jetties.get(jetty);
            int[] by = {j.kind, j.spot, j.length, j.height, j.paces(), j.wet ? 1 : 0,
                now.out(jetty, now.level) ? 1 : 0, now.time(jetty, now.law(1)) ? 1 : 0};
            return by[what];
        }

        private int lake(int what, int v) {
            within(what, 0, 2);
            int[] was = {now.level, now.guests, now.harbour};
            within(v, what == 0 ? -50 : 0, what == 0 ? 50 : what == 1 ? 60 : 255);
            now.level = what == 0 ? v : now.level;
            now.guests = what == 1 ? v : now.guests;
            now.harbour = what == 2 ? v : now.harbour;
            return was[what] == v ? 0 : 1;
        }

        private int winds(long[] row) {
            int n = 0;
            while (n < 12 && n + 1 < row.length && row[n + 1] >= 0 && row[n + 1] <= 9) {
                now.winds[n] = (int) row[n + 1];
                n++;
            }
            return n;
        }

        private int feed(int v, int n) {
            within(n, 1, 4);
            need(tape.length() + n <= 160, FULL);
            for (int k = n; k > 0; k--) {
                tape += (char) (v >> 8 * (k - 1) & 255);
            }
            return tape.length();
        }

        private static final String[] WORDS = {"boat", "speed", "pace", "box", "high", "wet", "wind", "skill", "leg"};
        private static final int[] LEAST = {1, 1, 1, 0, 0, 0, 0, 0, 1};
        private static final int[] MOST = {99, 9, 9, 99, 9, 99, 99, 9, 9};

        /** Tokens by a pattern, each looked at by what the one ahead of it was. */
        private int law() {
            need(now.laws.size() < 6, FULL);
            int[] law = {40, 4, 5, 3, 3, 40, 20, 4, 2};
            String text = tape;
            tape = "";
            Matcher tokens = Pattern.compile(" +|[a-z]+|[0-9]+|[\\x00-\\xff]").matcher(text);
            int due = 0;
            int word = -1;
            while (tokens.find()) {
                String token = tokens.group();
                if (token.startsWith(" ")) {
                    continue;
                }
                boolean fine;
                if (due == 0) {
                    word = Arrays.asList(WORDS).indexOf(token);
                    fine = word >= 0;
                } else if (due == 1) {
                    fine = token.matches("[0-9]{1,2}")
                            && Integer.parseInt(token) >= LEAST[word] && Integer.parseInt(token) <= MOST[word];
                    law[word] = fine ? Integer.parseInt(token) : 0;
                } else {
                    fine = token.equals(";");
                }
                need(fine, -20 - tokens.start());
                due = (due + 1) % 3;
            }
            need(due == 2, -20 - text.length());
            now.laws.add(law);
            return now.laws.size() - 1;
        }

        private int learnt(int leaper) {
            int[] l = now.leapers.get(leaper);
            return Math.min(99, (100 * (l[1] - l[2]) + 50) / (l[1] + 1));
        }

        private int round(int leaper, List<Integer> round, int what) {
            int[] minutes = now.minutes(round, now.law(1), -1);
            if (what == 0) {
                return now.riskOf(leaper, round, minutes);
            }
            if (what == 1) {
                return last(minutes);
            }
            return (int) round.stream().filter(j -> now.out(j, now.level) || !now.time(j, now.law(1))).count();
        }

        private int best(int leaper, int bits, int end, int what) {
            leaper(leaper);
            TreeSet<Integer> set = set(bits);
            within(end, 0, 999);
            need(what == 0 || what == 1 || what >= 10 && what < 10 + set.size(), BAD);
            List<List<Integer>> orders = new ArrayList<>();
            allOrders(new ArrayList<>(set), 0, orders);
            List<Integer> best = null;
            for (List<Integer> order : orders) {
                if (last(now.minutes(order, now.law(1), -1)) <= end
                        && (best == null || compare(leaper, order, best) < 0)) {
                    best = order;
                }
            }
            need(best != null, STUCK);
            int[] minutes = now.minutes(best, now.law(1), -1);
            return what == 0 ? now.riskOf(leaper, best, minutes) : what == 1 ? last(minutes) : best.get(what - 10);
        }

        private int compare(int leaper, List<Integer> a, List<Integer> b) {
            int[] am = now.minutes(a, now.law(1), -1);
            int[] bm = now.minutes(b, now.law(1), -1);
            int by = now.riskOf(leaper, a, am) - now.riskOf(leaper, b, bm);
            by = by == 0 ? last(am) - last(bm) : by;
            for (int i = 0; i < a.size() && by == 0; i++) {
                by = a.get(i) - b.get(i);
            }
            return by;
        }

        private static void allOrders(List<Integer> order, int from, List<List<Integer>> into) {
            if (from >= order.size()) {
                into.add(new ArrayList<>(order));
            }
            for (int i = from; i < order.size(); i++) {
                Collections.swap(order, from, i);
                allOrders(order, from + 1, into);
                Collections.swap(order, from, i);
            }
        }

        private int team(int bits, int m, int hour, int what) {
            List<Integer> set = new ArrayList<>(set(bits));
            within(m, 1, 6);
            within(hour, 0, 11);
            need(what == -1 || set.contains(what), BAD);
            int leapers = now.leapers.size();
            need(leapers * m >= set.size(), STUCK);
            int[] best = null;
            int least = 0;
            int teams = (int) Math.round(Math.pow(leapers, set.size()));
            for (int t = 0; t < teams; t++) {
                int[] team = new int[set.size()];
                int[] loads = new int[6];
                int sum = 0;
                boolean fine = true;
                int rest = t;
                // the least jetty's leaper is the highest digit, so teams come in their order
                for (int i = set.size() - 1; i >= 0; i--) {
                    team[i] = rest % leapers;
                    rest /= leapers;
                    fine &= ++loads[team[i]] <= m;
                    sum += fine ? now.risk(team[i], set.get(i), hour) : 0;
                }
                if (fine && (best == null || sum < least)) {
                    best = team;
                    least = sum;
                }
            }
            return what == -1 ? least : best[set.indexOf(what)];
        }

        private int missed(int leaper, List<Integer> round, int miss, int what) {
            int[] with = now.minutes(round, now.law(1), miss);
            int[] without = now.minutes(round, now.law(1), -1);
            int later = 0;
            for (int i = 0; i < with.length; i++) {
                later += hour(with[i]) > hour(without[i]) ? 1 : 0;
            }
            return what == 0 ? last(with) : what == 1 ? now.riskOf(leaper, round, with) : later;
        }

        private int pilot(List<Integer> round, int end) {
            int found = -1;
            for (int speed = 9; speed >= 1; speed--) {
                found = last(now.minutes(round, speed, -1)) <= end ? speed : found;
            }
            return found;
        }

        private int still(List<Integer> round) {
            int found = -1;
            for (int speed = 1; speed <= 9; speed++) {
                final int s = speed;
                found = round.stream().allMatch(j -> now.time(j, s)) ? speed : found;
            }
            return found;
        }

        private int lifts(int[] a) {
            need(!(shelves[a[0]] instanceof Integer) && !(shelves[a[2]] instanceof Integer), OTHER);
            List<Integer> bag = jettiesOf2(row(a[0]), row(a[2]), a[1]);
            List<Integer> round = jettiesOf(row(a[2]), a[3]);
            int lifts = 0;
            for (Integer jetty : round) {
                int lowest = bag.indexOf(jetty);
                for (int i = bag.size() - 1; lowest >= 0 && i > lowest; i--) {
                    lifts += bag.get(i).equals(jetty) ? 0 : 1;
                }
                bag.removeIf(jetty::equals);
            }
            return lifts;
        }

        /** The second row is only looked for, as NOTHING comes ahead of what rows tell. */
        private List<Integer> jettiesOf2(long[] row, long[] second, int n) {
            return second == null ? List.of() : jettiesOf(row, n);
        }

        private int stops(int minutes) {
            int best = 0;
            int most = -1;
            for (int bits = (1 << now.parcels.size()) - 1; bits >= 0; bits--) {
                int takes = 0;
                int worth = 0;
                for (int i = 0; i < now.parcels.size(); i++) {
                    takes += (bits >> i & 1) * now.parcels.get(i)[0];
                    worth += (bits >> i & 1) * now.parcels.get(i)[1];
                }
                if (takes <= minutes && worth >= most) {
                    most = worth;
                    best = bits;
                }
            }
            return best;
        }

        private int week(int jetty, int v) {
            for (int week = 0; week <= 20; week++) {
                if (now.out(jetty, now.level - v * week)) {
                    return week;
                }
            }
            return -1;
        }

        private int firstOut(int v) {
            for (int week = 0; week <= 20; week++) {
                for (int jetty = 0; jetty < now.jetties.size(); jetty++) {
                    if (now.out(jetty, now.level - v * week)) {
                        return jetty;
                    }
                }
            }
            return -1;
        }

        private int outs(int week, int v) {
            int bits = 0;
            for (int jetty = now.jetties.size() - 1; jetty >= 0; jetty--) {
                bits = 2 * bits + (now.out(jetty, now.level - v * week) ? 1 : 0);
            }
            return bits;
        }

        private int step() {
            need(now.voyage != null && now.voyage[1] < now.way.size(), STUCK);
            int[] v = now.voyage;
            int jetty = now.way.get(v[1]);
            int comes = v[2] + now.leg(now.voyageSpot, now.jetties.get(jetty).spot, now.law(1));
            int risk = now.risk(v[0], jetty, hour(comes));
            now.seed = (int) (now.seed * 1103515245L + 12345L);
            int draw = (int) ((now.seed & 0xFFFFFFFFL) / 65536 % 1000);
            int how = draw < risk / 10 ? 2 : draw < risk ? 1 : 0;
            now.voyageSpot = now.jetties.get(jetty).spot;
            v[1]++;
            v[2] = comes + 1 + (how == 2 ? 3 * now.law(1) : 0);
            v[3] += how == 1 ? 1 : 0;
            v[4] += how == 2 ? 1 : 0;
            now.leapers.get(v[0])[1]++;
            now.leapers.get(v[0])[2] += how > 0 ? 1 : 0;
            return how;
        }

        private int back() {
            need(kept != null, STUCK);
            now = kept.copy();
            for (int s = 0; s < 8; s++) {
                if (shelves[s] instanceof Integer && (Integer) shelves[s] >= now.jetties.size()) {
                    shelves[s] = null;
                }
            }
            return 1;
        }

        private int status(int what) {
            int used = (int) Arrays.stream(shelves).filter(s -> s != null).count();
            int[] by = {now.jetties.size(), now.laws.size(), now.leapers.size(), now.parcels.size(), tape.length(),
                now.seed, used, now.guests, now.harbour, -1, -1, -1,
                refused[0], refused[1], refused[2], refused[3], refused[4]};
            return what < 0 || what >= by.length ? -1 : by[what];
        }
    }

    private static long real(LettersLeaping x, String name, long[] l) {
        int[] a = new int[5];
        for (int i = 0; i < l.length; i++) {
            a[i] = (int) l[i];
        }
        switch (name) {
            case "row": return x.row(a[0], a[1], a[2]);
            case "set": return x.set(a[0], a[1], l[2]);
            case "copy": return x.copy(a[0], a[1], a[2], a[3], a[4]);
            case "element": return x.element(a[0], a[1]);
            case "holds": return x.holds(a[0]);
            case "show": return x.show(a[0], a[1]);
            case "says": return x.says(a[0], a[1]);
            case "jetty": return x.jetty(a[0], a[1], a[2], a[3]);
            case "jettyOf": return x.jettyOf(a[0], a[1]);
            case "wet": return x.wet(a[0], a[1] != 0);
            case "rise": return x.rise(a[0], a[1]);
            case "lake": return x.lake(a[0], a[1]);
            case "wind": return x.wind(a[0], a[1]);
            case "winds": return x.winds(a[0]);
            case "feed": return x.feed(a[0], a[1]);
            case "wipe": return x.wipe();
            case "law": return x.law();
            case "lawOf": return x.lawOf(a[0], a[1]);
            case "force": return x.force(a[0]);
            case "leaper": return x.leaper(a[0]);
            case "leaperOf": return x.leaperOf(a[0], a[1]);
            case "tried": return x.tried(a[0], a[1], a[2]);
            case "learnt": return x.learnt(a[0]);
            case "learn": return x.learn(a[0]);
            case "risk": return x.risk(a[0], a[1], a[2]);
            case "calm": return x.calm(a[0], a[1]);
            case "leg": return x.leg(a[0], a[1]);
            case "round": return x.round(a[0], a[1], a[2], a[3]);
            case "best": return x.best(a[0], a[1], a[2], a[3]);
            case "team": return x.team(a[0], a[1], a[2], a[3]);
            case "safest": return x.safest(a[0], a[1]);
            case "missed": return x.missed(a[0], a[1], a[2], a[3], a[4]);
            case "pilot": return x.pilot(a[0], a[1], a[2]);
            case "still": return x.still(a[0], a[1]);
            case "firstOut": return x.firstOut(a[0]);
            case "lifts": return x.lifts(a[0], a[1], a[2], a[3]);
            case "parcel": return x.parcel(a[0], a[1], a[2]);
            case "stops": return x.stops(a[0]);
            case "week": return x.week(a[0], a[1]);
            case "outs": return x.outs(a[0], a[1]);
            case "seed": return x.seed(a[0]);
            case "begin": return x.begin(a[0], a[1], a[2]);
            case "step": return x.step();
            case "under": return x.under(a[0]);
            case "image": return x.image();
            case "back": return x.back();
            case "status": return x.status(a[0]);
            default: throw new IllegalStateException(name);
        }
    }

    /** Each call with a letter for what each of its arguments is, and how often it is made. */
    private static final String[] CALLS = {
        "row s o n 2", "set s i v 25", "copy s s i i i 6", "element s i 6", "holds s 3", "show s J 2", "says s k 5",
        "jetty k p l h 8", "jettyOf j w 5", "wet j b 4", "rise j L 4", "lake q L 6", "wind H W 6", "winds s 3",
        "feed x f 3", "wipe 1", "law 2", "lawOf a w 3", "force A 3", "leaper S 3", "leaperOf e t 2", "tried e y t 3",
        "learnt e 2", "learn e 2", "risk e j H 8", "calm e j 4", "leg p p 3", "round e s m t 8", "best e B E u 4",
        "team B g H J 2", "safest j H 3", "missed e s m i t 6", "pilot s m E 4", "still s m 4", "firstOut Y 2",
        "lifts s n s m 5", "parcel j y y 4", "stops T 2", "week j Y 3", "outs Y Y 3", "seed x 1", "begin e s m 4",
        "step 14", "under w 4", "image 1", "back 1", "status z 4"};

    private static long argument(char sort, Random r, Model m) {
        if (r.nextInt(40) == 0) {
            int[] odd = {-1, -2, 1000, Integer.MIN_VALUE, Integer.MAX_VALUE, -1000000, 255, 256, 20, 40, 41, 60, 61};
            return odd[r.nextInt(odd.length)];
        }
        int jetties = Math.max(1, m.now.jetties.size());
        int leapers = Math.max(1, m.now.leapers.size());
        switch (sort) {
            case 's': return r.nextInt(5) == 0 ? r.nextInt(10) - 1 : r.nextInt(3);
            case 'o': return r.nextInt(5);
            case 'n': return r.nextInt(41);
            case 'i': return r.nextInt(8);
            case 'v': return r.nextInt(8) == 0 ? r.nextLong() : r.nextInt(jetties + (r.nextInt(9) == 0 ? 1 : 0));
            case 'J': return r.nextInt(jetties + 1) - 1;
            case 'j': return r.nextInt(12) == 0 ? jetties : r.nextInt(jetties);
            case 'k': return r.nextInt(6);
            case 'p': return r.nextInt(256);
            case 'l': return 1 + (r.nextInt(3) == 0 ? r.nextInt(30) : r.nextInt(10));
            case 'h': return r.nextInt(100);
            case 'w': return r.nextInt(9);
            case 'b': return r.nextInt(2);
            case 'L': return r.nextInt(105) - 52;
            case 'q': return r.nextInt(3);
            case 'H': return r.nextInt(12);
            case 'W': return r.nextInt(10);
            case 'x': return r.nextInt();
            case 'f': return 1 + r.nextInt(4);
            case 'a': return r.nextInt(6);
            case 'A': return r.nextInt(1 + Math.max(1, m.now.laws.size())) - 1;
            case 'S': return r.nextInt(100);
            case 'e': return r.nextInt(20) == 0 ? leapers : r.nextInt(leapers);
            case 't': return r.nextInt(3);
            case 'y': return 1 + r.nextInt(60);
            case 'm': return r.nextInt(9);
            case 'B': return someOf(r, jetties);
            case 'E': return r.nextInt(3) == 0 ? r.nextInt(1000) : r.nextInt(60);
            case 'u': return r.nextInt(2) == 0 ? r.nextInt(2) : 10 + r.nextInt(6);
            case 'g': return 1 + r.nextInt(6);
            case 'Y': return r.nextInt(22);
            case 'T': return r.nextInt(300);
            case 'z': return r.nextInt(18);
            default: throw new IllegalStateException("" + sort);
        }
    }

    private static int someOf(Random r, int jetties) {
        int bits = 0;
        int most = r.nextInt(7);
        for (int i = 0; i < most; i++) {
            bits |= 1 << r.nextInt(jetties);
        }
        return bits;
    }

    /** A text that is a law more often than not. */
    private static String text(Random r) {
        StringBuilder text = new StringBuilder();
        int statements = r.nextInt(6);
        for (int i = 0; i <= statements; i++) {
            text.append(i > 0 ? ";" : "").append(r.nextInt(4) == 0 ? " " : "");
            int word = r.nextInt(9);
            int most = Model.MOST[word] + (r.nextInt(8) == 0 ? 2 : 1);
            text.append(Model.WORDS[word]).append(r.nextInt(3) == 0 ? "" : " ");
            text.append(Model.LEAST[word] + r.nextInt(Math.max(1, most - Model.LEAST[word])));
        }
        while (r.nextInt(3) == 0) {
            String odd = "abt0159; ;; #\u00e9\u0000Z-";
            text.insert(r.nextInt(text.length() + 1), odd.charAt(r.nextInt(odd.length())));
        }
        return text.toString();
    }

    private static boolean same(LettersLeaping x, Model m, String name, long[] args, int run) {
        long want = m.call(name, args);
        long got = real(x, name, args);
        if (got != want) {
            System.out.println("run " + run + ": " + name + Arrays.toString(args) + " answered " + got + ", due is " + want);
        }
        return got == want;
    }

    /** A lake with jetties that can be leapt to, leapers, and rows that tell rounds, as calls. */
    private static List<Object[]> lakeAtFirst(Random r) {
        List<Object[]> calls = new ArrayList<>();
        int jetties = 3 + r.nextInt(10);
        int spots = r.nextBoolean() ? 256 : 6;
        for (int i = 0; i < jetties; i++) {
            calls.add(new Object[] {"jetty", new long[] {r.nextInt(6), r.nextInt(spots), 1 + r.nextInt(8), r.nextInt(75)}});
        }
        int leapers = 1 + r.nextInt(6);
        int skills = r.nextBoolean() ? 40 : 2;
        for (int i = 0; i < leapers; i++) {
            calls.add(new Object[] {"leaper", new long[] {r.nextInt(skills)}});
        }
        for (int hour = 0; hour < 12; hour++) {
            calls.add(new Object[] {"wind", new long[] {hour, r.nextInt(10)}});
        }
        for (int s = 0; s < 3; s++) {
            int n = 5 + r.nextInt(16);
            calls.add(new Object[] {"row", new long[] {s, r.nextInt(4), n}});
            for (int i = 0; i < n; i++) {
                calls.add(new Object[] {"set", new long[] {s, i, r.nextInt(jetties)}});
            }
        }
        String slow = "speed 1;leg 9;boat " + (20 + r.nextInt(50));
        for (char c : (r.nextBoolean() ? slow : "wet 50;high 5").toCharArray()) {
            calls.add(new Object[] {"feed", new long[] {c, 1}});
        }
        calls.add(new Object[] {"law", new long[0]});
        calls.add(new Object[] {"force", new long[] {r.nextInt(2) - 1}});
        return calls;
    }

    private static boolean runIsSame(int run, List<String> hat) {
        Random r = new Random(run);
        LettersLeaping x = new LettersLeaping();
        Model m = new Model();
        int calls = 0;
        if (run % 3 != 0) {
            for (Object[] call : lakeAtFirst(r)) {
                calls++;
                if (!same(x, m, (String) call[0], (long[]) call[1], run)) {
                    return false;
                }
            }
        }
        // An object is good for 512 calls, and a text may take a hundred of them.
        while (calls < 400) {
            if (r.nextInt(60) == 0) {
                for (char c : text(r).toCharArray()) {
                    calls++;
                    if (!same(x, m, "feed", new long[] {c, 1}, run)) {
                        return false;
                    }
                }
                calls++;
                if (!same(x, m, "law", new long[0], run)) {
                    return false;
                }
            }
            String[] words = hat.get(r.nextInt(hat.size())).split(" ");
            long[] args = new long[words.length - 2];
            for (int i = 0; i < args.length; i++) {
                args[i] = argument(words[i + 1].charAt(0), r, m);
            }
            calls++;
            if (!same(x, m, words[0], args, run)) {
                return false;
            }
        }
        for (int what = 12; what <= 16; what++) {
            if (!same(x, m, "status", new long[] {what}, run)) {
                return false;
            }
        }
        return true;
    }

    public static void main(String[] args) {
        int runs = args.length > 0 ? Integer.parseInt(args[0]) : 600;
        List<String> hat = new ArrayList<>();
        for (String call : CALLS) {
            int often = Integer.parseInt(call.substring(call.lastIndexOf(' ') + 1));
            hat.addAll(Collections.nCopies(often, call));
        }
        int wrong = 0;
        for (int run = 0; run < runs; run++) {
            wrong += runIsSame(run, hat) ? 0 : 1;
        }
        System.out.println(wrong == 0 ? runs + " runs are as the model has them" : wrong + " runs are not");
        if (wrong != 0) {
            System.exit(1);
        }
    }
}
