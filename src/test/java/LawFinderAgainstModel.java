import java.util.ArrayDeque;
import java.util.ArrayList;
import java.util.Arrays;
import java.util.Deque;
import java.util.List;
import java.util.Random;
import java.util.TreeSet;

/** Long runs of calls, each answer beside that of a model that follows the document's words without any short cut. */
public final class LawFinderAgainstModel {
    private static final int RUNS = 400;
    private static final int CALLS = 512;

    /** A row: null stands where it has nothing. */
    private static final class Row implements Cloneable {
        int kind;
        Double[] numbers;
        int price = 1;

        Row copy() {
            Row r = new Row();
            r.kind = kind;
            r.numbers = numbers.clone();
            r.price = price;
            return r;
        }
    }

    private static final class State {
        int columns = 4;
        Row[] rows = new Row[16];
        int[] told = new int[4];

        State copy() {
            State s = new State();
            s.columns = columns;
            for (int i = 0; i < 16; i++) {
                s.rows[i] = rows[i] == null ? null : rows[i].copy();
            }
            s.told = told.clone();
            return s;
        }
    }

    private static final class Model {
        State now = new State();
        final Deque<State> past = new ArrayDeque<>();

        void keep() {
            past.push(now.copy());
            if (past.size() > 6) {
                past.removeLast();
            }
        }

        Row rowOf(int s) {
            return s < 0 || s > 15 ? null : now.rows[s];
        }

        boolean column(int c) {
            return c >= 0 && c < now.columns;
        }

        static boolean can(int kind, int v) {
            return Math.abs((long) v) <= 99 || (kind == 4 && v == 100);
        }

        static Double value(int v) {
            return v == 100 ? null : Double.valueOf(v);
        }

        boolean table(int c) {
            if (c < 1 || c > 4) return false;
            keep();
            now = new State();
            now.columns = c;
            return true;
        }

        boolean put(int s, int kind, int n, int... v) {
            if (s < 0 || s > 15 || kind < 0 || kind > 4 || n < 0 || n > 4) return false;
            for (int i = 0; i < n; i++) {
                if (!can(kind, v[i])) return false;
            }
            keep();
            Row r = new Row();
            r.kind = kind;
            r.numbers = new Double[n];
            for (int i = 0; i < n; i++) {
                r.numbers[i] = value(v[i]);
            }
            now.rows[s] = r;
            return true;
        }

        boolean change(int s, int c, int v) {
            Row r = rowOf(s);
            if (r == null || !column(c) || c >= r.numbers.length || !can(r.kind, v)) return false;
            keep();
            now.rows[s].numbers[c] = value(v);
            return true;
        }

        boolean strike(int s) {
            if (rowOf(s) == null) return false;
            keep();
            now.rows[s] = null;
            return true;
        }

        boolean price(int s, int v) {
            if (rowOf(s) == null || v < 0 || v > 99) return false;
            keep();
            now.rows[s].price = v;
            return true;
        }

        boolean swap(int c, int d) {
            if (!column(c) || !column(d)) return false;
            for (Row r : now.rows) {
                if (r != null && (r.numbers.length <= c || r.numbers.length <= d)) return false;
            }
            keep();
            for (Row r : now.rows) {
                if (r != null) {
                    Double x = r.numbers[c];
                    r.numbers[c] = r.numbers[d];
                    r.numbers[d] = x;
                }
            }
            return true;
        }

        Double numberAt(int s, int c) {
            Row r = now.rows[s];
            return c < r.numbers.length ? r.numbers[c] : null;
        }

        int at(int s, int c) {
            if (rowOf(s) == null || !column(c)) return 1001;
            Double x = numberAt(s, c);
            return x == null ? 1000 : x.intValue();
        }

        int row(int s, int what) {
            if (s < 0 || s > 15) return -1;
            Row r = now.rows[s];
            if (what == 0) return r == null ? 0 : 1;
            if (r == null) return -1;
            return what == 1 ? r.kind : what == 2 ? r.numbers.length : what == 3 ? r.price : -1;
        }

        int[] words(int s, int t) {
            int[] w = new int[now.columns];
            for (int c = 0; c < now.columns; c++) {
                Double x = numberAt(s, c);
                Double y = numberAt(t, c);
                w[c] = x == null || y == null ? 2 : x.equals(y) ? 1 : x < y ? 3 : 4;
            }
            return w;
        }

        static int number(int[] w) {
            int n = 0;
            for (int c = w.length - 1; c >= 0; c--) {
                n = n * 5 + w[c];
            }
            return n;
        }

        int[] digits(int n) {
            if (n < 0) return null;
            int[] w = new int[now.columns];
            for (int c = 0; c < w.length; c++) {
                w[c] = n % 5;
                n /= 5;
            }
            return n == 0 ? w : null;
        }

        int[] lawOf(int law) {
            return law == 0 ? null : digits(law);
        }

        int between(int s, int t) {
            if (rowOf(s) == null || rowOf(t) == null || s == t) return -1;
            return number(words(s, t));
        }

        int pairs(int b) {
            int[] w = digits(b);
            if (w == null || Arrays.stream(w).anyMatch(d -> d == 0)) return -1;
            int n = 0;
            for (int s = 0; s < 16; s++) {
                for (int t = 0; t < 16; t++) {
                    if (between(s, t) == b) n++;
                }
            }
            return n;
        }

        int kinds() {
            TreeSet<Integer> all = new TreeSet<>();
            for (int s = 0; s < 16; s++) {
                for (int t = 0; t < 16; t++) {
                    all.add(between(s, t));
                }
            }
            all.remove(-1);
            return all.size();
        }

        static boolean so(int[] law, int[] between) {
            for (int c = 0; c < law.length; c++) {
                boolean is = law[c] == 0 || (law[c] == 1 && between[c] == 1) || (law[c] == 2 && between[c] != 1)
                        || (law[c] == 3 && between[c] == 3) || (law[c] == 4 && between[c] == 4);
                if (!is) return false;
            }
            return true;
        }

        boolean breaksIt(int[] law, int s, int t) {
            return rowOf(s) != null && rowOf(t) != null && (so(law, words(s, t)) || so(law, words(t, s)));
        }

        List<int[]> breakers(int[] law) {
            List<int[]> found = new ArrayList<>();
            for (int s = 0; s < 16; s++) {
                for (int t = s + 1; t < 16; t++) {
                    if (breaksIt(law, s, t)) found.add(new int[] {s, t});
                }
            }
            return found;
        }

        int broken(int law) {
            int[] w = lawOf(law);
            return w == null ? -1 : breakers(w).size();
        }

        int breaker(int law, int k, int what) {
            int[] w = lawOf(law);
            if (w == null || what < 0 || what > 1) return -1;
            List<int[]> all = breakers(w);
            return k < 0 || k >= all.size() ? -1 : all.get(k)[what];
        }

        static int[] turned(int[] law) {
            int[] w = law.clone();
            for (int c = 0; c < w.length; c++) {
                w[c] = law[c] == 3 ? 4 : law[c] == 4 ? 3 : law[c];
            }
            return w;
        }

        static boolean saidStraight(int[] law, int[] by) {
            for (int c = 0; c < by.length; c++) {
                if (by[c] != 0 && by[c] != law[c] && !(by[c] == 2 && (law[c] == 3 || law[c] == 4))) return false;
            }
            return true;
        }

        static boolean saidBy(int[] law, int[] by) {
            return saidStraight(law, by) || saidStraight(law, turned(by));
        }

        List<Integer> found(int b, int m) {
            List<int[]> near = new ArrayList<>();
            for (int law = 1; lawOf(law) != null; law++) {
                if (breakers(lawOf(law)).size() <= b) near.add(lawOf(law));
            }
            TreeSet<Integer> all = new TreeSet<>();
            for (int[] law : near) {
                boolean isLeast = Arrays.stream(law).filter(d -> d != 0).count() <= m;
                for (int[] other : near) {
                    boolean same = Arrays.equals(other, law) || Arrays.equals(other, turned(law));
                    if (!same && saidBy(law, other)) {
                        isLeast = false;
                        break;
                    }
                }
                if (isLeast) all.add(Math.min(number(law), number(turned(law))));
            }
            return new ArrayList<>(all);
        }

        int laws(int b, int m) {
            return b < 0 || b > 120 || m < 1 || m > 4 ? -1 : found(b, m).size();
        }

        int law(int b, int m, int i) {
            if (laws(b, m) == -1) return -1;
            List<Integer> all = found(b, m);
            return i < 0 || i >= all.size() ? -1 : all.get(i);
        }

        int sort(int law) {
            int[] w = lawOf(law);
            if (w == null) return -1;
            int[] many = new int[5];
            for (int d : w) {
                many[d]++;
            }
            if (many[2] + many[3] + many[4] == 0) return 0;
            if (many[2] == 1 && many[3] + many[4] == 0) return 1;
            return many[3] + many[4] >= 2 ? 2 : 3;
        }

        int least(int law) {
            int[] w = lawOf(law);
            return w == null ? -1 : Math.min(law, number(turned(w)));
        }

        int said(int law, int by) {
            int[] w = lawOf(law);
            int[] v = lawOf(by);
            return w == null || v == null ? -1 : saidBy(w, v) ? 1 : 0;
        }

        boolean alikeIn(int set, int s, int t) {
            int[] w = words(s, t);
            for (int c = 0; c < w.length; c++) {
                if ((set & 1 << c) != 0 && w[c] != 1) return false;
            }
            return true;
        }

        int settles(int set) {
            if (set < 0 || set >= 1 << now.columns) return -1;
            int all = 0;
            for (int c = 0; c < now.columns; c++) {
                boolean is = true;
                for (int s = 0; s < 16; s++) {
                    for (int t = 0; t < 16; t++) {
                        if (between(s, t) != -1 && alikeIn(set, s, t) && words(s, t)[c] != 1) is = false;
                    }
                }
                if (is) all |= 1 << c;
            }
            return all;
        }

        boolean isKey(int set) {
            for (int s = 0; s < 16; s++) {
                for (int t = 0; t < 16; t++) {
                    if (between(s, t) != -1 && alikeIn(set, s, t)) return false;
                }
            }
            return true;
        }

        List<Integer> leastKeys() {
            List<Integer> all = new ArrayList<>();
            for (int set = 0; set < 1 << now.columns; set++) {
                boolean is = isKey(set);
                for (int part = 0; part < set && is; part++) {
                    if ((part & set) == part && isKey(part)) is = false;
                }
                if (is) all.add(set);
            }
            return all;
        }

        int keys() {
            return leastKeys().size();
        }

        int key(int i) {
            List<Integer> all = leastKeys();
            return i < 0 || i >= all.size() ? -1 : all.get(i);
        }

        boolean tell(int i, int law) {
            if (i < 0 || i > 3 || (law != 0 && lawOf(law) == null)) return false;
            keep();
            now.told[i] = law;
            return true;
        }

        int told(int i) {
            return i < 0 || i > 3 ? -1 : now.told[i];
        }

        int mend(int what) {
            if (what < 0 || what > 2) return -1;
            List<Integer> edges = new ArrayList<>();
            for (int s = 0; s < 16; s++) {
                for (int t = s + 1; t < 16; t++) {
                    boolean any = false;
                    for (int law : now.told) {
                        any |= law != 0 && breaksIt(lawOf(law), s, t);
                    }
                    if (any) edges.add(1 << s | 1 << t);
                }
            }
            if (what == 2) return edges.size();
            int bestSet = -1;
            int bestSum = Integer.MAX_VALUE;
            for (int set = 0; set < 1 << 16; set++) {
                int sum = sumOf(set);
                if (sum >= 0 && sum < bestSum && mendsAll(set, edges)) {
                    bestSum = sum;
                    bestSet = set;
                }
            }
            return what == 0 ? bestSum : bestSet;
        }

        int sumOf(int set) {
            int sum = 0;
            for (int s = 0; s < 16; s++) {
                if ((set >> s & 1) == 1) {
                    if (now.rows[s] == null) return -1;
                    sum += now.rows[s].price;
                }
            }
            return sum;
        }

        static boolean mendsAll(int set, List<Integer> edges) {
            for (int edge : edges) {
                if ((edge & set) == 0) return false;
            }
            return true;
        }

        boolean undo() {
            if (past.isEmpty()) return false;
            now = past.pop();
            return true;
        }
    }

    private static final int[] ODD = {-1, -2, 4, 5, 16, 17, 120, 121, 624, 625, 626, -99, -100, 99, 100, 101,
        Integer.MAX_VALUE, Integer.MIN_VALUE, 1 << 16, -625};

    private final Random random;
    private final LawFinder real = new LawFinder();
    private final Model model = new Model();
    private final int spread;
    private final int slots;
    private final int oddness;
    private final List<String> calls = new ArrayList<>();

    private LawFinderAgainstModel(int seed) {
        random = new Random(seed);
        spread = 1 + random.nextInt(5);
        slots = 3 + random.nextInt(14);
        oddness = random.nextBoolean() ? 40 : 8;
    }

    /** Mostly a number below n, now and then one that can't be. */
    private int any(int n) {
        return random.nextInt(oddness) == 0 ? ODD[random.nextInt(ODD.length)] : random.nextInt(n);
    }

    private int number() {
        int r = random.nextInt(30);
        return r == 0 ? ODD[random.nextInt(ODD.length)] : r < 4 ? 100 : random.nextInt(spread + 1) - 1;
    }

    private int lawNumber() {
        return any((int) Math.pow(5, model.now.columns));
    }

    private boolean same(String call, Object got, Object due) {
        calls.add(call + " = " + got);
        if (!got.equals(due)) {
            System.out.println("wrong: " + call + " answered " + got + ", due is " + due + " after");
            calls.forEach(c -> System.out.println("  " + c));
            return false;
        }
        return true;
    }

    private boolean put() {
        int s = any(slots), k = any(5), a = number(), b = number(), c = number(), d = number();
        int n = random.nextInt(3) > 0 ? Math.min(4, model.now.columns + random.nextInt(2)) : any(5);
        String call = "put(" + s + "," + k + "," + n + "," + a + "," + b + "," + c + "," + d + ")";
        return same(call, real.put(s, k, n, a, b, c, d), model.put(s, k, n, a, b, c, d));
    }

    private boolean write() {
        int s = any(slots), c = any(model.now.columns), v = number(), p = any(random.nextBoolean() ? 4 : 100);
        switch (random.nextInt(12)) {
            case 0:
                c = random.nextInt(5) == 0 ? any(5) : -1;
                return same("table(" + c + ")", real.table(c), model.table(c));
            case 1:
            case 2: return same("change(" + s + "," + c + "," + v + ")", real.change(s, c, v), model.change(s, c, v));
            case 3: return same("strike(" + s + ")", real.strike(s), model.strike(s));
            case 4:
            case 5: return same("price(" + s + "," + p + ")", real.price(s, p), model.price(s, p));
            case 6: {
                int d = any(model.now.columns);
                return same("swap(" + c + "," + d + ")", real.swap(c, d), model.swap(c, d));
            }
            case 7: {
                int i = any(4), law = random.nextInt(6) == 0 ? 0 : lawNumber();
                return same("tell(" + i + "," + law + ")", real.tell(i, law), model.tell(i, law));
            }
            case 8:
                return random.nextBoolean() || same("undo()", real.undo(), model.undo());
            default: return put();
        }
    }

    private boolean readRows() {
        int s = any(slots), t = any(slots), c = any(5), w = any(4), b = lawNumber();
        if (random.nextBoolean() && model.between(s, t) != -1) {
            b = model.between(s, t);
        }
        switch (random.nextInt(5)) {
            case 0: return same("at(" + s + "," + c + ")", real.at(s, c), model.at(s, c));
            case 1: return same("row(" + s + "," + w + ")", real.row(s, w), model.row(s, w));
            case 2: return same("between(" + s + "," + t + ")", real.between(s, t), model.between(s, t));
            case 3: return same("pairs(" + b + ")", real.pairs(b), model.pairs(b));
            default: return same("kinds()", real.kinds(), model.kinds());
        }
    }

    private boolean readLaws() {
        int law = lawNumber(), by = lawNumber(), k = any(6), w = any(2);
        if (random.nextBoolean() && model.now.columns == 4) {
            by = law - law / 5 % 5 * 5;
        }
        switch (random.nextInt(5)) {
            case 0: return same("broken(" + law + ")", real.broken(law), model.broken(law));
            case 1: {
                String call = "breaker(" + law + "," + k + "," + w + ")";
                return same(call, real.breaker(law, k, w), model.breaker(law, k, w));
            }
            case 2: return same("sort(" + law + ")", real.sort(law), model.sort(law));
            case 3: return same("least(" + law + ")", real.least(law), model.least(law));
            default: return same("said(" + law + "," + by + ")", real.said(law, by), model.said(law, by));
        }
    }

    private boolean readFound() {
        int b = any(random.nextBoolean() ? 3 : 121), m = random.nextInt(4) == 0 ? any(5) : 4, i = any(12);
        int set = any(16), w = any(3);
        switch (random.nextInt(16)) {
            case 0: return same("laws(" + b + "," + m + ")", real.laws(b, m), model.laws(b, m));
            case 1: return same("law(" + b + "," + m + "," + i + ")", real.law(b, m, i), model.law(b, m, i));
            case 2:
            case 3: return same("mend(" + w + ")", real.mend(w), model.mend(w));
            case 4:
            case 5:
            case 6: return same("told(" + w + ")", real.told(w), model.told(w));
            case 7:
            case 8:
            case 9: return same("keys()", real.keys(), model.keys());
            case 10:
            case 11:
            case 12: return same("key(" + w + ")", real.key(w), model.key(w));
            default: return same("settles(" + set + ")", real.settles(set), model.settles(set));
        }
    }

    private boolean run() {
        for (int call = 0; call < CALLS; call++) {
            int r = random.nextInt(10);
            boolean good = call < slots * 2 ? put() : r < 3 ? write() : r < 5 ? readRows() : r < 7 ? readLaws() : readFound();
            if (!good) return false;
        }
        return true;
    }

    public static void main(String[] args) {
        int wrong = 0;
        for (int seed = 0; seed < RUNS && wrong < 3; seed++) {
            if (!new LawFinderAgainstModel(seed).run()) {
                System.out.println("that was run " + seed);
                wrong++;
            }
        }
        System.out.println(wrong == 0 ? "all runs are as the model's" : wrong + " runs are not as the model's");
        if (wrong != 0) {
            System.exit(1);
        }
    }
}
