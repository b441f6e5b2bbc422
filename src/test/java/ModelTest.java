import java.math.BigInteger;
import java.util.ArrayDeque;
import java.util.ArrayList;
import java.util.Deque;
import java.util.List;
import java.util.Random;
import java.util.regex.Matcher;
import java.util.regex.Pattern;

/** Long runs of calls, against a slow program that says the document over again in its own words. */
public final class ModelTest {
    private static final int NONE = -100000, UNKNOWN = -100001, OUTSIDE = -100002, NOT = -100003, FULL = -100004;
    private static final int NULL = -100011, INDEX = -100012, ROOM = -100013, NUMBER = -100014;
    private static final int OBJECTS = 200, CALLS = 512;

    /** A fraction in lowest terms. */
    private record Fraction(BigInteger above, BigInteger below) implements Comparable<Fraction> {
        static Fraction of(long above, long below) {
            return of(BigInteger.valueOf(above), BigInteger.valueOf(below));
        }

        static Fraction of(BigInteger above, BigInteger below) {
            BigInteger shared = above.gcd(below);
            return new Fraction(above.divide(shared), below.divide(shared));
        }

        Fraction plus(Fraction o) {
            return of(above.multiply(o.below).add(o.above.multiply(below)), below.multiply(o.below));
        }

        Fraction minus(Fraction o) {
            return plus(of(o.above.negate(), o.below));
        }

        Fraction by(long divisor) {
            return of(above, below.multiply(BigInteger.valueOf(divisor)));
        }

        Fraction abs() {
            return of(above.abs(), below);
        }

        public int compareTo(Fraction o) {
            return above.multiply(o.below).compareTo(o.above.multiply(below));
        }

        int floor() {
            BigInteger[] parts = above.divideAndRemainder(below);
            return parts[0].intValue() - (parts[1].signum() < 0 ? 1 : 0);
        }

        int part(int part) {
            return (part == 0 ? above : below).intValue();
        }
    }

    /** What is kept and undone. */
    private static final class Stand {
        List<List<List<Integer>>> runs = new ArrayList<>();
        int place, screw, turns, travel;
        boolean up = true;

        static Stand with(int points) {
            Stand s = new Stand();
            for (int p = 0; p < points; p++) {
                s.runs.add(List.of(new ArrayList<>(), new ArrayList<>()));
            }
            return s;
        }

        Stand copy() {
            Stand s = new Stand();
            for (List<List<Integer>> at : runs) {
                s.runs.add(List.of(new ArrayList<>(at.get(0)), new ArrayList<>(at.get(1))));
            }
            s.place = place;
            s.screw = screw;
            s.turns = turns;
            s.travel = travel;
            s.up = up;
            return s;
        }

        int add(int p, int w, int e) {
            List<Integer> at = runs.get(p).get(w);
            at.add(e);
            if (at.size() == 7) {
                at.remove(0);
            }
            return at.size();
        }
    }

    private static final class Model {
        final StringBuilder text = new StringBuilder();
        int step = 20;
        Stand now = Stand.with(3);
        Deque<Stand> past = new ArrayDeque<>();
        Stand[] kept = new Stand[2];
        StringBuilder[] labels = new StringBuilder[3];
        int clauses;
        Stand draft;
        int draftStep;

        int n() {
            return now.runs.size();
        }

        Fraction mean(Stand s, int p, int w) {
            List<Integer> at = s.runs.get(p).get(w);
            return at.isEmpty() ? Fraction.of(0, 1) : Fraction.of(at.stream().mapToInt(e -> e).sum(), at.size());
        }

        Fraction slope(Stand s, int p) {
            return mean(s, p, 0).plus(mean(s, p, 1)).by(2);
        }

        Fraction wanted(Stand s, int p) {
            return Fraction.of((long) p * step, 1).minus(slope(s, p));
        }

        Fraction play(Stand s) {
            Fraction sum = Fraction.of(0, 1);
            for (int p = 0; p < n(); p++) {
                sum = sum.plus(mean(s, p, 0)).minus(mean(s, p, 1));
            }
            return sum.by(n());
        }

        int playCounts(Stand s) {
            Fraction play = play(s);
            int best = 0;
            for (int c = 0; c <= 100; c++) {
                boolean nearer = Fraction.of(c, 1).minus(play).abs().compareTo(Fraction.of(best, 1).minus(play).abs()) < 0;
                best = nearer ? c : best;
            }
            return best;
        }

        Fraction meanOfSpan(Stand s, int from, int to) {
            Fraction sum = Fraction.of(0, 1);
            for (int p = from; p <= to; p++) {
                sum = sum.plus(wanted(s, p));
            }
            return sum.by(to - from + 1);
        }

        /** By the greatest of the least means of spans: what pooling comes to, found another way. */
        Fraction poolMean(Stand s, int p) {
            Fraction greatest = null;
            for (int from = 0; from <= p; from++) {
                Fraction least = null;
                for (int to = p; to < n(); to++) {
                    Fraction m = meanOfSpan(s, from, to);
                    least = least == null || m.compareTo(least) < 0 ? m : least;
                }
                greatest = greatest == null || least.compareTo(greatest) > 0 ? least : greatest;
            }
            return greatest;
        }

        int poolFirst(int p) {
            int first = p;
            while (first > 0 && poolMean(now, first - 1).equals(poolMean(now, p))) {
                first--;
            }
            return first;
        }

        int poolSize(int p) {
            int last = p;
            while (last < n() - 1 && poolMean(now, last + 1).equals(poolMean(now, p))) {
                last++;
            }
            return last - poolFirst(p) + 1;
        }

        int table(Stand s, int p) {
            Fraction m = poolMean(s, p);
            int low = m.floor();
            int nearest = m.minus(Fraction.of(low, 1)).compareTo(Fraction.of(1, 2)) > 0 ? low + 1 : low;
            return p == 0 ? nearest : Math.max(nearest, table(s, p - 1) + 1);
        }

        int count(int x) {
            int k = x / step == n() - 1 ? n() - 2 : x / step;
            int low = table(now, k);
            return low + Fraction.of((long) (table(now, k + 1) - low) * (x - k * step), step).floor();
        }

        Fraction miss(int p, int w) {
            return mean(now, p, w).plus(Fraction.of(table(now, p) - p * step + (w == 1 ? playCounts(now) : 0), 1));
        }

        String sheet() {
            StringBuilder s = new StringBuilder();
            for (int p = 0; p < n(); p++) {
                s.append(String.format("%d:%+d;", p, table(now, p) - p * step));
            }
            return s.append('p').append(playCounts(now)).toString();
        }

        /** -1, or the fault; the draft is what the clauses make. */
        int fault() {
            List<String> tokens = new ArrayList<>();
            List<Integer> starts = new ArrayList<>();
            Matcher m = Pattern.compile("[a-z]+|[0-9]+|[^ ]", Pattern.DOTALL).matcher(text);
            while (m.find()) {
                tokens.add(m.group());
                starts.add(m.start());
            }
            tokens.add("");
            starts.add(text.length());
            draft = now.copy();
            draftStep = step;
            clauses = 0;
            int k = 0;
            while (true) {
                clauses++;
                int read = clause(tokens, k);
                if (read < 0) {
                    return starts.get(-1 - read);
                }
                k = read;
                if (tokens.get(k).isEmpty()) {
                    return -1;
                }
                if (!tokens.get(k).equals(";") || clauses == 24) {
                    return starts.get(k);
                }
                k++;
            }
        }

        /** The token behind the clause, or -1 less the token that is the fault. */
        int clause(List<String> tokens, int first) {
            int k = first;
            String name = tokens.get(k++);
            if (name.equals("axis")) {
                if (!number(tokens.get(k), 2, 8)) {
                    return -1 - k;
                }
                if (!number(tokens.get(k + 1), 10, 99)) {
                    return -1 - (k + 1);
                }
                draft = Stand.with(Integer.parseInt(tokens.get(k)));
                draftStep = Integer.parseInt(tokens.get(k + 1));
                return k + 2;
            }
            if (name.equals("at")) {
                if (!number(tokens.get(k), 0, draft.runs.size() - 1)) {
                    return -1 - k;
                }
                int p = Integer.parseInt(tokens.get(k++));
                String way = tokens.get(k);
                if (!way.equals("up") && !way.equals("down")) {
                    return -1 - k;
                }
                return err(tokens, k + 1, p, way.equals("up") ? 0 : 1);
            }
            if (!name.equals("up") && !name.equals("down")) {
                return -1 - first;
            }
            for (int p = 0; p < draft.runs.size() && k >= 0; p++) {
                k = err(tokens, k, p, name.equals("up") ? 0 : 1);
            }
            return k;
        }

        int err(List<String> tokens, int first, int p, int w) {
            boolean minus = tokens.get(first).equals("-");
            int k = minus ? first + 1 : first;
            if (!number(tokens.get(k), 0, 40)) {
                return -1 - k;
            }
            int e = Integer.parseInt(tokens.get(k));
            draft.add(p, w, minus ? -e : e);
            return k + 1;
        }

        static boolean number(String token, int least, int most) {
            return token.matches("[0-9]{1,2}") && Integer.parseInt(token) >= least && Integer.parseInt(token) <= most;
        }

        int axis() {
            if (fault() != -1) {
                return NOT;
            }
            now = draft;
            step = draftStep;
            now.place = 0;
            now.turns = 0;
            now.travel = 0;
            now.up = true;
            now.screw = table(now, 0);
            past.clear();
            kept = new Stand[2];
            labels = new StringBuilder[3];
            text.setLength(0);
            return clauses;
        }

        void remember() {
            past.push(now.copy());
            if (past.size() == 9) {
                past.removeLast();
            }
        }

        boolean noPoint(int p) {
            return p < 0 || p >= n();
        }

        static boolean not01(int w) {
            return w < 0 || w > 1;
        }

        static boolean noErr(int e) {
            return e < -40 || e > 40;
        }

        int answer(int call, int a, int b, int c) {
            return call < 16 ? measured(call, a, b, c) : call < 21 ? moves(call, a) : labels(call, a, b, c);
        }

        int measured(int call, int a, int b, int c) {
            switch (call) {
                case 1:
                    if (a < 0 || a > 255) {
                        return OUTSIDE;
                    }
                    return text.length() == 200 ? FULL : text.append((char) a).length();
                case 2:
                    int had = text.length();
                    text.setLength(0);
                    return had;
                case 3:
                    return fault();
                case 4:
                    return axis();
                case 5:
                    if (noPoint(a)) {
                        return UNKNOWN;
                    }
                    if (not01(b) || noErr(c)) {
                        return OUTSIDE;
                    }
                    remember();
                    return now.add(a, b, c);
                case 6:
                    if (noPoint(a)) {
                        return UNKNOWN;
                    }
                    if (not01(b)) {
                        return OUTSIDE;
                    }
                    int size = now.runs.get(a).get(b).size();
                    if (size == 0) {
                        return NOT;
                    }
                    remember();
                    now.runs.get(a).get(b).clear();
                    return size;
                case 7:
                    if (past.isEmpty()) {
                        return NOT;
                    }
                    now = past.pop();
                    return past.size();
                case 8:
                    if (not01(a)) {
                        return UNKNOWN;
                    }
                    kept[a] = now.copy();
                    return now.place;
                case 9:
                    if (not01(a)) {
                        return UNKNOWN;
                    }
                    if (kept[a] == null) {
                        return NOT;
                    }
                    now = kept[a].copy();
                    past.clear();
                    return now.place;
                case 10:
                    if (noPoint(a)) {
                        return UNKNOWN;
                    }
                    if (not01(b) || c < 0) {
                        return OUTSIDE;
                    }
                    return c < now.runs.get(a).get(b).size() ? now.runs.get(a).get(b).get(c) : NONE;
                default:
                    return figures(call, a, b, c);
            }
        }

        int figures(int call, int a, int b, int c) {
            switch (call) {
                case 11:
                    if (noPoint(a)) {
                        return UNKNOWN;
                    }
                    if (b < 0 || b > 6 || not01(c)) {
                        return OUTSIDE;
                    }
                    return (b < 2 ? mean(now, a, b) : b == 2 ? slope(now, a) : b == 3 ? wanted(now, a)
                            : b == 4 ? poolMean(now, a) : miss(a, b - 5)).part(c);
                case 12:
                    if (noPoint(a)) {
                        return UNKNOWN;
                    }
                    return b == 0 ? table(now, a) : b == 1 ? poolFirst(a) : b == 2 ? poolSize(a) : OUTSIDE;
                case 13:
                    return not01(a) ? OUTSIDE : play(now).part(a);
                case 14:
                    int worst = 0;
                    for (int k = 1; k < 2 * n(); k++) {
                        worst = miss(k / 2, k % 2).abs().compareTo(miss(worst / 2, worst % 2).abs()) > 0 ? k : worst;
                    }
                    return worst;
                default:
                    if (noPoint(a)) {
                        return UNKNOWN;
                    }
                    if (not01(b) || noErr(c)) {
                        return OUTSIDE;
                    }
                    Stand were = now.copy();
                    were.add(a, b, c);
                    return table(were, a);
            }
        }

        int moves(int call, int a) {
            int last = (n() - 1) * step;
            switch (call) {
                case 16:
                    if (a < 0 || a > last) {
                        return OUTSIDE;
                    }
                    if (a == now.place) {
                        return NOT;
                    }
                    remember();
                    boolean up = a > now.place;
                    int to = count(a) - (up ? 0 : playCounts(now));
                    now.turns += up == now.up ? 0 : 1;
                    now.travel += Math.abs(to - now.screw);
                    now.place = a;
                    now.screw = to;
                    now.up = up;
                    return to;
                case 17:
                    return a < 0 || a > last ? OUTSIDE : count(a);
                case 18:
                    if (a < -200 || a > 2000) {
                        return OUTSIDE;
                    }
                    for (int x = 0; x <= last; x++) {
                        if (count(x) >= a) {
                            return x;
                        }
                    }
                    return NONE;
                case 19:
                    return told(a);
                default:
                    return a < 0 ? OUTSIDE : a < sheet().length() ? sheet().charAt(a) : NONE;
            }
        }

        int told(int what) {
            int runs = now.runs.stream().mapToInt(at -> at.get(0).size() + at.get(1).size()).sum();
            int letters = 0;
            for (StringBuilder label : labels) {
                letters += label == null ? 0 : label.length();
            }
            int[] all = {n(), step, playCounts(now), now.place, now.screw, now.turns, now.travel, now.up ? 1 : 0, runs,
                sheet().length(), letters, past.size(), text.length()};
            return what < 0 || what >= all.length ? OUTSIDE : all[what];
        }

        int labels(int call, int a, int b, int c) {
            boolean two = call == 24 || call == 27;
            if (a < 0 || a > 2 || two && (b < 0 || b > 2)) {
                return UNKNOWN;
            }
            if (call == 21) {
                labels[a] = new StringBuilder();
                return 0;
            }
            if (call == 22 && (c < 32 || c > 126)) {
                return OUTSIDE;
            }
            if (labels[a] == null || two && labels[b] == null) {
                return NULL;
            }
            String it = labels[a].toString();
            switch (call) {
                case 22:
                    return b < 0 || b > it.length() ? INDEX : it.length() == 24 ? ROOM
                            : labels[a].insert(b, (char) c).length();
                case 23:
                    return b < 0 || b > it.length() || c < b || c > it.length() ? INDEX : labels[a].delete(b, c).length();
                case 24:
                    return it.length() + labels[b].length() > 24 ? ROOM : labels[a].append(labels[b].toString()).length();
                case 25:
                    return labels[a].reverse().length();
                case 26:
                    return b < 0 || b >= it.length() ? INDEX : it.charAt(b);
                case 27:
                    return 1 + Integer.signum(it.compareTo(labels[b].toString()));
                case 28:
                    int times = 0;
                    for (int k = 0; k < sheet().length() && !it.isEmpty(); k++) {
                        times += sheet().startsWith(it, k) ? 1 : 0;
                    }
                    return times;
                case 29:
                    int at = List.of("up", "down", "axis", "at").indexOf(it);
                    return at < 0 ? NONE : at;
                case 30:
                    return it.matches("-?[0-9]{1,4}") ? Integer.parseInt(it) : NUMBER;
                default:
                    labels[a] = null;
                    return it.length();
            }
        }
    }

    private static int answer(AxisTable x, int call, int a, int b, int c) {
        switch (call) {
            case 1: return x.write(a);
            case 2: return x.erase();
            case 3: return x.fault();
            case 4: return x.axis();
            case 5: return x.run(a, b, c);
            case 6: return x.clear(a, b);
            case 7: return x.undo();
            case 8: return x.keep(a);
            case 9: return x.back(a);
            case 10: return x.runAt(a, b, c);
            case 11: return x.point(a, b, c);
            case 12: return x.table(a, b);
            case 13: return x.play(a);
            case 14: return x.worst();
            case 15: return x.merged(a, b, c);
            case 16: return x.move(a);
            case 17: return x.countOf(a);
            case 18: return x.placeOf(a);
            case 19: return x.told(a);
            case 20: return x.sheet(a);
            case 21: return x.label(a);
            case 22: return x.insert(a, b, c);
            case 23: return x.cut(a, b, c);
            case 24: return x.join(a, b);
            case 25: return x.turn(a);
            case 26: return x.letter(a, b);
            case 27: return x.compare(a, b);
            case 28: return x.times(a);
            case 29: return x.word(a);
            case 30: return x.value(a);
            default: return x.drop(a);
        }
    }

    private static final class Run {
        final AxisTable real = new AxisTable();
        final Model model = new Model();
        final Random random;
        final StringBuilder told = new StringBuilder();
        int calls = 0;
        boolean wrong = false;

        Run(int seed) {
            random = new Random(seed);
        }

        int call(int call, int a, int b, int c) {
            if (calls >= CALLS || wrong) {
                return 0;
            }
            calls++;
            int want = model.answer(call, a, b, c);
            int got = answer(real, call, a, b, c);
            told.append(String.format("call %d (%d, %d, %d) answered %d, due is %d%n", call, a, b, c, got, want));
            wrong = got != want;
            return want;
        }

        int among(int least, int most) {
            return least + random.nextInt(most - least + 1);
        }

        boolean chance(int percent) {
            return random.nextInt(100) < percent;
        }

        /** Mostly as told, at times just beside it, at times far off. */
        int near(int least, int most) {
            int luck = random.nextInt(60);
            int[] odd = {Integer.MIN_VALUE, Integer.MAX_VALUE, least - 1, most + 1};
            return luck < odd.length ? odd[luck] : luck < 8 ? least : luck < 12 ? most : among(least, most);
        }

        String number(int least, int most) {
            int luck = random.nextInt(120);
            int n = luck == 0 ? least - 1 : luck == 1 ? most + 1 : luck < 8 ? least : luck < 16 ? most : among(least, most);
            String digits = Integer.toString(Math.max(n, 0));
            return chance(3) ? "0" + digits : digits;
        }

        String err() {
            return (chance(40) ? chance(50) ? "-" : "- " : "") + number(0, 40);
        }

        String clause(int[] points) {
            int kind = random.nextInt(6);
            if (kind == 0) {
                points[0] = among(2, 8);
                return "axis " + (chance(97) ? "" + points[0] : number(2, 8)) + " " + number(10, 99);
            }
            if (kind < 4) {
                return "at " + number(0, points[0] - 1) + (chance(50) ? " up " : "down") + err();
            }
            StringBuilder row = new StringBuilder(chance(50) ? "up" : "down ");
            int count = points[0] + (chance(3) ? among(-1, 1) : 0);
            for (int k = 0; k < count; k++) {
                row.append(' ').append(err());
            }
            return row.toString();
        }

        void text() {
            int[] points = {model.n()};
            StringBuilder text = new StringBuilder();
            int count = chance(5) ? among(20, 30) : among(1, 4);
            for (int k = 0; k < count; k++) {
                text.append(k == 0 ? "" : chance(10) ? " ; " : ";").append(count > 4 ? "at0up" + among(0, 9) : clause(points));
            }
            if (chance(15)) {
                String odd = "aupx-;: 0A9~\t" + (char) 200;
                text.insert(random.nextInt(text.length() + 1), odd.charAt(random.nextInt(odd.length())));
            }
            if (chance(5)) {
                text.setLength(random.nextInt(text.length() + 1));
            }
            for (int k = 0; k < text.length(); k++) {
                call(1, text.charAt(k), 0, 0);
            }
            call(3, 0, 0, 0);
            if (call(4, 0, 0, 0) == NOT && chance(80)) {
                call(2, 0, 0, 0);
            }
        }

        void spell() {
            String[] labels = {"up", "down", "axis", "at", "-12", "9999", "12345", "1:", "+0;", "0", ";", "p", "+1", "-"};
            String it = labels[random.nextInt(labels.length)];
            int label = among(0, 2);
            call(21, label, 0, 0);
            for (int k = 0; k < it.length(); k++) {
                call(22, label, k, it.charAt(k));
            }
            call(among(28, 30), label, 0, 0);
        }

        void step() {
            int n = model.n();
            int last = (n - 1) * model.step;
            int luck = random.nextInt(100);
            if (luck < 2) {
                text();
            } else if (luck < 4) {
                spell();
            } else if (luck < 24) {
                call(5, near(0, n - 1), near(0, 1), near(-40, 40));
            } else if (luck < 34) {
                call(16, near(0, last), 0, 0);
            } else {
                other(n, last);
            }
        }

        void other(int n, int last) {
            int call = among(1, 31);
            int label = near(0, 2);
            switch (call) {
                case 1 -> call(1, near(0, 255), 0, 0);
                case 2, 4 -> call(chance(80) ? 3 : call, 0, 0, 0);
                case 6 -> call(6, near(0, n - 1), near(0, 1), 0);
                case 8, 9, 13 -> call(call, near(0, 1), 0, 0);
                case 10 -> call(10, near(0, n - 1), near(0, 1), near(0, 5));
                case 11 -> call(11, near(0, n - 1), near(0, 6), near(0, 1));
                case 12 -> call(12, near(0, n - 1), near(0, 2), 0);
                case 15, 5 -> call(call, near(0, n - 1), near(0, 1), near(-40, 40));
                case 16, 17 -> call(call, near(0, last), 0, 0);
                case 18 -> call(18, chance(5) ? near(-200, 2000) : among(-60, last + 60), 0, 0);
                case 19 -> call(19, near(0, 12), 0, 0);
                case 20 -> call(20, near(0, 52), 0, 0);
                case 22 -> call(22, label, near(0, chance(50) ? 3 : 24), near(32, 126));
                case 23 -> call(23, label, near(0, 6), near(0, 12));
                case 24, 27 -> call(call, label, near(0, 2), 0);
                case 26 -> call(26, label, near(0, 5), 0);
                case 31 -> call(chance(30) ? 31 : 25, label, 0, 0);
                default -> call(call, label, 0, 0);
            }
        }
    }

    public static void main(String[] args) {
        int calls = 0;
        int wrong = 0;
        for (int seed = 0; seed < OBJECTS && wrong < 5; seed++) {
            Run run = new Run(seed);
            for (int k = 0; k < CALLS && run.calls < CALLS && !run.wrong; k++) {
                run.step();
            }
            calls += run.calls;
            if (run.wrong) {
                wrong++;
                System.out.println("run " + seed + ", the last call is wrong:");
                System.out.println(run.told.substring(Math.max(0, run.told.length() - 1500)));
            }
        }
        System.out.println(calls + " calls against the model, " + wrong + " runs wrong");
        if (wrong != 0) {
            System.exit(1);
        }
    }
}
