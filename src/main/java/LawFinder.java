import java.util.Arrays;

/** Rows of numbers, and the laws that hold between them; the document says what each call answers. */
public final class LawFinder {
    public static final int NONE = -1;

    private static final int SLOTS = 16;
    private static final int WIDTH = 4;
    private static final int TOLD = 4;
    private static final int UNDOS = 6;
    private static final int DOUBLES = 4;
    private static final int GREATEST = 99;
    private static final int NO_NUMBER = 100;
    private static final int NOTHING = 1000;
    private static final int NO_PLACE = 1001;
    private static final int MOST_NEAR = 120;

    private static final int SILENT = 0;
    private static final int ALIKE = 1;
    private static final int UNLIKE = 2;
    private static final int APART = 2;
    private static final int LESS = 3;
    private static final int MORE = 4;

    private static final int KEY = 0;
    private static final int LEADS = 1;
    private static final int RISES = 2;
    private static final int OTHERS = 3;

    private static final int ALL_LAWS = 625;
    private static final int[] FIVES = {1, 5, 25, 125, 625};

    private final Sheet sheet = new Sheet();
    private final History history = new History();
    private final Tally tally = new Tally();
    private final Mender mender = new Mender();
    private boolean counted = false;
    private boolean mended = false;

    public LawFinder() {
    }

    public boolean table(int c) {
        if (c < 1 || c > WIDTH) {
            return false;
        }
        remember();
        sheet.empty(c);
        return true;
    }

    public boolean put(int s, int kind, int n, int a, int b, int c, int d) {
        if (!isSlot(s) || kind < 0 || kind > DOUBLES || n < 0 || n > WIDTH) {
            return false;
        }
        if ((n > 0 && !fits(kind, a)) || (n > 1 && !fits(kind, b))
                || (n > 2 && !fits(kind, c)) || (n > 3 && !fits(kind, d))) {
            return false;
        }
        remember();
        sheet.seat(s, kind, n);
        sheet.write(s, 0, n > 0 ? a : NO_NUMBER);
        sheet.write(s, 1, n > 1 ? b : NO_NUMBER);
        sheet.write(s, 2, n > 2 ? c : NO_NUMBER);
        sheet.write(s, 3, n > 3 ? d : NO_NUMBER);
        return true;
    }

    public boolean change(int s, int c, int v) {
        if (!sheet.hasRow(s) || !sheet.hasColumn(c) || c >= sheet.sizeOf[s] || !fits(sheet.kindOf[s], v)) {
            return false;
        }
        remember();
        sheet.write(s, c, v);
        return true;
    }

    public boolean strike(int s) {
        if (!sheet.hasRow(s)) {
            return false;
        }
        remember();
        sheet.kindOf[s] = NONE;
        return true;
    }

    public boolean price(int s, int v) {
        if (!sheet.hasRow(s) || v < 0 || v > GREATEST) {
            return false;
        }
        remember();
        sheet.priceOf[s] = v;
        return true;
    }

    public boolean swap(int c, int d) {
        if (!sheet.hasColumn(c) || !sheet.hasColumn(d) || sheet.shortest() <= Math.max(c, d)) {
            return false;
        }
        remember();
        sheet.exchange(c, d);
        return true;
    }

    public int at(int s, int c) {
        return sheet.hasRow(s) && sheet.hasColumn(c) ? sheet.read(s, c) : NO_PLACE;
    }

    public int row(int s, int what) {
        if (!isSlot(s)) {
            return NONE;
        }
        if (what == 0) {
            return sheet.hasRow(s) ? 1 : 0;
        }
        if (!sheet.hasRow(s)) {
            return NONE;
        }
        switch (what) {
            case 1: return sheet.kindOf[s];
            case 2: return sheet.sizeOf[s];
            case 3: return sheet.priceOf[s];
            default: return NONE;
        }
    }

    public int between(int s, int t) {
        return s != t && sheet.hasRow(s) && sheet.hasRow(t) ? sheet.compared(s, t) : NONE;
    }

    public int pairs(int between) {
        // What is between two rows tells of every column, and in such a number each has a digit that is not 0.
        if (!isLaw(between) || columnsOf(between) != sheet.columns) {
            return NONE;
        }
        count();
        return tally.seen[between];
    }

    public int kinds() {
        count();
        return tally.unlikeSeen();
    }

    public int broken(int law) {
        if (!isLaw(law)) {
            return NONE;
        }
        count();
        return tally.breaks[law];
    }

    public int breaker(int law, int k, int what) {
        if (!isLaw(law) || k < 0 || what < 0 || what > 1) {
            return NONE;
        }
        int ahead = k;
        for (int s = 0; s < SLOTS; s++) {
            for (int t = s + 1; t < SLOTS; t++) {
                if (sheet.pairBreaks(s, t, law)) {
                    if (ahead == 0) {
                        return what == 0 ? s : t;
                    }
                    ahead--;
                }
            }
        }
        return NONE;
    }

    public int laws(int b, int m) {
        if (!canSeek(b, m)) {
            return NONE;
        }
        count();
        int found = 0;
        for (int law = 1; law < FIVES[sheet.columns]; law++) {
            if (tally.isFound(law, b, m)) {
                found++;
            }
        }
        return found;
    }

    public int law(int b, int m, int i) {
        if (!canSeek(b, m) || i < 0) {
            return NONE;
        }
        count();
        int ahead = i;
        for (int law = 1; law < FIVES[sheet.columns]; law++) {
            if (tally.isFound(law, b, m)) {
                if (ahead == 0) {
                    return law;
                }
                ahead--;
            }
        }
        return NONE;
    }

    public int sort(int law) {
        if (!isLaw(law)) {
            return NONE;
        }
        int unlike = 0;
        int ordered = 0;
        for (int c = 0; c < WIDTH; c++) {
            int word = digitOf(law, c);
            if (word == UNLIKE) {
                unlike++;
            } else if (word > UNLIKE) {
                ordered++;
            }
        }
        if (ordered > 1) {
            return RISES;
        }
        if (ordered == 1 || unlike > 1) {
            return OTHERS;
        }
        return unlike == 1 ? LEADS : KEY;
    }

    public int least(int law) {
        return isLaw(law) ? Math.min(law, turnedOf(law)) : NONE;
    }

    public int said(int law, int by) {
        if (!isLaw(law) || !isLaw(by)) {
            return NONE;
        }
        return covers(by, law) || covers(turnedOf(by), law) ? 1 : 0;
    }

    public int settles(int set) {
        if (set < 0 || set >= 1 << sheet.columns) {
            return NONE;
        }
        count();
        int settled = set;
        for (int c = 0; c < sheet.columns; c++) {
            // A column of the set is settled anyway, and its ALIKE with UNLIKE added would read as LESS.
            if ((set >> c & 1) == 0 && tally.breaks[alikeLaw(set) + UNLIKE * FIVES[c]] == 0) {
                settled |= 1 << c;
            }
        }
        return settled;
    }

    public int keys() {
        count();
        int found = 0;
        for (int set = 0; set < 1 << sheet.columns; set++) {
            if (tally.isLeastKey(set)) {
                found++;
            }
        }
        return found;
    }

    public int key(int i) {
        if (i < 0) {
            return NONE;
        }
        count();
        int ahead = i;
        for (int set = 0; set < 1 << sheet.columns; set++) {
            if (tally.isLeastKey(set)) {
                if (ahead == 0) {
                    return set;
                }
                ahead--;
            }
        }
        return NONE;
    }

    public boolean tell(int i, int law) {
        if (i < 0 || i >= TOLD || (law != 0 && !isLaw(law))) {
            return false;
        }
        remember();
        sheet.toldLaws[i] = law;
        return true;
    }

    public int told(int i) {
        return i >= 0 && i < TOLD ? sheet.toldLaws[i] : NONE;
    }

    public int mend(int what) {
        if (what < 0 || what > 2) {
            return NONE;
        }
        if (!mended) {
            mender.seek(sheet);
            mended = true;
        }
        switch (what) {
            case 0: return mender.cost();
            case 1: return mender.slots();
            default: return mender.brokenPairs;
        }
    }

    public boolean undo() {
        if (!history.giveBack(sheet)) {
            return false;
        }
        counted = false;
        mended = false;
        return true;
    }

    /** Stands ahead of every change, so that what was counted is never taken for the new state. */
    private void remember() {
        history.keep(sheet);
        counted = false;
        mended = false;
    }

    private void count() {
        if (!counted) {
            tally.recount(sheet);
            counted = true;
        }
    }

    private boolean isLaw(int law) {
        return law > 0 && law < FIVES[sheet.columns];
    }

    private static boolean isSlot(int s) {
        return s >= 0 && s < SLOTS;
    }

    private static boolean fits(int kind, int number) {
        return (number >= -GREATEST && number <= GREATEST) || (kind == DOUBLES && number == NO_NUMBER);
    }

    private static boolean canSeek(int b, int m) {
        return b >= 0 && b <= MOST_NEAR && m >= 1 && m <= WIDTH;
    }

    private static int digitOf(int law, int c) {
        return law / FIVES[c] % 5;
    }

    private static int columnsOf(int law) {
        int columns = 0;
        for (int c = 0; c < WIDTH; c++) {
            if (digitOf(law, c) != SILENT) {
                columns++;
            }
        }
        return columns;
    }

    private static int turnedOf(int law) {
        int turned = law;
        for (int c = 0; c < WIDTH; c++) {
            int word = digitOf(law, c);
            if (word == LESS) {
                turned += FIVES[c];
            } else if (word == MORE) {
                turned -= FIVES[c];
            }
        }
        return turned;
    }

    /** APART and UNLIKE share a number, so one rule serves a narrower law and what is between two rows. */
    private static boolean covers(int wide, int narrow) {
        for (int c = 0; c < WIDTH; c++) {
            int word = digitOf(wide, c);
            int under = digitOf(narrow, c);
            if (word == UNLIKE ? under < UNLIKE : word != SILENT && word != under) {
                return false;
            }
        }
        return true;
    }

    private static int alikeLaw(int set) {
        int law = 0;
        for (int c = 0; c < WIDTH; c++) {
            if ((set >> c & 1) == 1) {
                law += ALIKE * FIVES[c];
            }
        }
        return law;
    }

    /** All that undo() brings back. */
    private static final class Sheet {
        int columns = WIDTH;
        final int[] kindOf = new int[SLOTS];
        final int[] sizeOf = new int[SLOTS];
        final int[] priceOf = new int[SLOTS];
        final int[] numbers = new int[SLOTS * WIDTH];
        final int[] toldLaws = new int[TOLD];

        Sheet() {
            Arrays.fill(kindOf, NONE);
        }

        void empty(int width) {
            columns = width;
            Arrays.fill(kindOf, NONE);
            Arrays.fill(toldLaws, 0);
        }

        void copyFrom(Sheet other) {
            columns = other.columns;
            System.arraycopy(other.kindOf, 0, kindOf, 0, SLOTS);
            System.arraycopy(other.sizeOf, 0, sizeOf, 0, SLOTS);
            System.arraycopy(other.priceOf, 0, priceOf, 0, SLOTS);
            System.arraycopy(other.numbers, 0, numbers, 0, SLOTS * WIDTH);
            System.arraycopy(other.toldLaws, 0, toldLaws, 0, TOLD);
        }

        boolean hasRow(int s) {
            return isSlot(s) && kindOf[s] != NONE;
        }

        boolean hasColumn(int c) {
            return c >= 0 && c < columns;
        }

        void seat(int s, int kind, int size) {
            kindOf[s] = kind;
            sizeOf[s] = size;
            priceOf[s] = 1;
        }

        void write(int s, int c, int number) {
            numbers[s * WIDTH + c] = number == NO_NUMBER ? NOTHING : number;
        }

        int read(int s, int c) {
            return numbers[s * WIDTH + c];
        }

        int shortest() {
            int size = WIDTH;
            for (int s = 0; s < SLOTS; s++) {
                if (hasRow(s)) {
                    size = Math.min(size, sizeOf[s]);
                }
            }
            return size;
        }

        void exchange(int c, int d) {
            for (int s = 0; s < SLOTS; s++) {
                int number = numbers[s * WIDTH + c];
                numbers[s * WIDTH + c] = numbers[s * WIDTH + d];
                numbers[s * WIDTH + d] = number;
            }
        }

        int compared(int s, int t) {
            int between = 0;
            for (int c = 0; c < columns; c++) {
                between += FIVES[c] * word(read(s, c), read(t, c));
            }
            return between;
        }

        private static int word(int first, int second) {
            if (first == NOTHING || second == NOTHING) {
                return APART;
            }
            if (first == second) {
                return ALIKE;
            }
            return first < second ? LESS : MORE;
        }

        boolean pairBreaks(int s, int t, int law) {
            if (!hasRow(s) || !hasRow(t)) {
                return false;
            }
            int between = compared(s, t);
            return covers(law, between) || covers(turnedOf(law), between);
        }
    }

    /** The latest states, in a ring that is made once, since every run lives in one small room. */
    private static final class History {
        final Sheet[] ring = new Sheet[UNDOS];
        int next = 0;
        int kept = 0;

        History() {
            for (int i = 0; i < UNDOS; i++) {
                ring[i] = new Sheet();
            }
        }

        void keep(Sheet sheet) {
            ring[next].copyFrom(sheet);
            next = (next + 1) % UNDOS;
            kept = Math.min(kept + 1, UNDOS);
        }

        boolean giveBack(Sheet sheet) {
            if (kept == 0) {
                return false;
            }
            next = (next + UNDOS - 1) % UNDOS;
            kept--;
            sheet.copyFrom(ring[next]);
            return true;
        }
    }

    /** What is between all pairs, and from it how many pairs break each law. */
    private static final class Tally {
        final int[] seen = new int[ALL_LAWS];
        final int[] breaks = new int[ALL_LAWS];

        void recount(Sheet sheet) {
            Arrays.fill(seen, 0);
            for (int s = 0; s < SLOTS; s++) {
                for (int t = 0; t < SLOTS; t++) {
                    if (s != t && sheet.hasRow(s) && sheet.hasRow(t)) {
                        seen[sheet.compared(s, t)]++;
                    }
                }
            }
            System.arraycopy(seen, 0, breaks, 0, ALL_LAWS);
            for (int c = 0; c < sheet.columns; c++) {
                sumUp(c, FIVES[sheet.columns]);
            }
            halveEven(FIVES[sheet.columns]);
        }

        /** Column by column, so that no law has to look at every pair. */
        private void sumUp(int c, int end) {
            int step = FIVES[c];
            for (int law = 0; law < end; law++) {
                if (digitOf(law, c) == SILENT) {
                    int unlike = breaks[law + APART * step] + breaks[law + LESS * step] + breaks[law + MORE * step];
                    breaks[law + UNLIKE * step] = unlike;
                    breaks[law] = breaks[law + ALIKE * step] + unlike;
                }
            }
        }

        /** A pair breaks a law that is its own turned one both ways round, any other one way alone. */
        private void halveEven(int end) {
            for (int law = 0; law < end; law++) {
                if (turnedOf(law) == law) {
                    breaks[law] /= 2;
                }
            }
        }

        int unlikeSeen() {
            int unlike = 0;
            for (int between = 0; between < ALL_LAWS; between++) {
                if (seen[between] != 0) {
                    unlike++;
                }
            }
            return unlike;
        }

        boolean isFound(int law, int b, int m) {
            return breaks[law] <= b && columnsOf(law) <= m && law <= turnedOf(law) && !hasWiderNear(law, b);
        }

        /** One step wider is enough: what lies between a law and a near wider one is near too. */
        private boolean hasWiderNear(int law, int b) {
            for (int c = 0; c < WIDTH; c++) {
                int word = digitOf(law, c);
                int wider = law - (word > UNLIKE ? word - UNLIKE : word) * FIVES[c];
                if (wider != law && wider != 0 && breaks[wider] <= b) {
                    return true;
                }
            }
            return false;
        }

        boolean isLeastKey(int set) {
            if (breaks[alikeLaw(set)] != 0) {
                return false;
            }
            for (int c = 0; c < WIDTH; c++) {
                if ((set >> c & 1) == 1 && breaks[alikeLaw(set - (1 << c))] == 0) {
                    return false;
                }
            }
            return true;
        }
    }

    /** The least price first, then the least number: both in one weight, so that one sum decides. */
    private static final class Mender {
        private static final int PRICE_UNIT = 1 << SLOTS;

        final int[] foes = new int[SLOTS];
        final int[] weights = new int[SLOTS];
        int brokenPairs = 0;
        int lightest = 0;

        void seek(Sheet sheet) {
            brokenPairs = 0;
            for (int s = 0; s < SLOTS; s++) {
                foes[s] = 0;
                weights[s] = sheet.hasRow(s) ? sheet.priceOf[s] * PRICE_UNIT + (1 << s) : 0;
            }
            for (int s = 0; s < SLOTS; s++) {
                for (int t = s + 1; t < SLOTS; t++) {
                    if (breaksOne(sheet, s, t)) {
                        brokenPairs++;
                        foes[s] |= 1 << t;
                        foes[t] |= 1 << s;
                    }
                }
            }
            lightest = lightestCover(foes, weights, PRICE_UNIT - 1, 0);
        }

        int cost() {
            return lightest / PRICE_UNIT;
        }

        int slots() {
            return lightest % PRICE_UNIT;
        }

        private static boolean breaksOne(Sheet sheet, int s, int t) {
            for (int i = 0; i < TOLD; i++) {
                if (sheet.toldLaws[i] != 0 && sheet.pairBreaks(s, t, sheet.toldLaws[i])) {
                    return true;
                }
            }
            return false;
        }

        /** Either the busiest slot goes, or all its foes do; every level takes a slot out of those left. */
        private static int lightestCover(int[] foes, int[] weights, int left, int depth) {
            int slot = busiest(foes, left);
            if (slot == NONE || depth > SLOTS) {
                return 0;
            }
            int against = foes[slot] & left;
            int others = left & ~(1 << slot);
            int foesGo = weightOf(weights, against);
            int afterFoes = lightestCover(foes, weights, others & ~against, depth + 1);
            if (Integer.bitCount(against) == 1) {
                return Math.min(foesGo, weights[slot]) + afterFoes;
            }
            int slotGoes = weights[slot] + lightestCover(foes, weights, others, depth + 1);
            return Math.min(foesGo + afterFoes, slotGoes);
        }

        private static int busiest(int[] foes, int left) {
            int best = NONE;
            int most = 0;
            for (int s = 0; s < SLOTS; s++) {
                int many = (left >> s & 1) == 1 ? Integer.bitCount(foes[s] & left) : 0;
                if (many > most) {
                    best = s;
                    most = many;
                }
            }
            return best;
        }

        private static int weightOf(int[] weights, int set) {
            int sum = 0;
            for (int s = 0; s < SLOTS; s++) {
                if ((set >> s & 1) == 1) {
                    sum += weights[s];
                }
            }
            return sum;
        }
    }
}
