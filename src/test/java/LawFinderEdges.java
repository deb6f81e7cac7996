import java.util.function.IntUnaryOperator;

/**
 * The boundary cases: for each sentence of the document that names one (too small, too large, empty, full, a
 * wrap-around, a refused call) a test of its own, which bears the sentence. No object gets more than 512 calls.
 */
public final class LawFinderEdges {
    private static final int MIN = Integer.MIN_VALUE;
    private static final int MAX = Integer.MAX_VALUE;
    private static final int NOTHING = 1000;
    private static final int NO_PLACE = 1001;
    /** Among them such as would be slots, if only their last bits were looked at. */
    private static final int[] NO_SLOTS = {-1, 16, 17, -16, 32, 1 << 16, 1 << 28, MIN, MIN + 1, MAX};
    private static final int[] NO_NUMBERS = {-100, 101, 127, 128, -128, 256, 1000, 1001, 65536, MIN, MIN + 1, MAX};
    private static final int[] FIVES = {1, 5, 25, 125, 625};

    private static String edge = "";
    private static int edges = 0;
    private static int checks = 0;
    private static int wrong = 0;

    private interface Test {
        void run();
    }

    private interface Call {
        boolean on(LawFinder x);
    }

    private static void due(String what, int got, int want) {
        checks++;
        if (got != want) {
            wrong++;
            System.out.println(edge + ": " + what + " answered " + got + ", due is " + want);
        }
    }

    private static void due(String what, boolean got, boolean want) {
        due(what, got ? 1 : 0, want ? 1 : 0);
    }

    private static void none(String what, int got) {
        due(what, got, LawFinder.NONE);
    }

    private static void edge(String where, String sentence, Test test) {
        edge = where + ", \"" + sentence + "\"";
        edges++;
        int before = checks;
        test.run();
        if (checks == before) {
            wrong++;
            System.out.println(edge + ": nothing is tested");
        }
    }

    /** All that can be asked of the state, in 141 calls. */
    private static String stateOf(LawFinder x) {
        StringBuilder all = new StringBuilder();
        for (int s = 0; s < 16; s++) {
            for (int i = 0; i < 4; i++) {
                all.append(x.row(s, i)).append(' ').append(x.at(s, i)).append(' ');
            }
        }
        for (int i = 0; i < 4; i++) {
            all.append(x.told(i)).append(' ').append(x.settles(1 << i) == -1 ? "no " : "column ");
        }
        for (int what = 0; what < 3; what++) {
            all.append(x.mend(what)).append(' ');
        }
        return all.append(x.kinds()).append(' ').append(x.keys()).toString();
    }

    /** A refused call is told so, changes nothing that can be asked, and is none that undo() would take back. */
    private static void refuses(LawFinder x, Call... calls) {
        int price = x.row(0, 3);
        due("a call that is done", x.price(0, 77), true);
        String before = stateOf(x);
        for (int i = 0; i < calls.length; i++) {
            due("refused call " + i, calls[i].on(x), false);
        }
        due("nothing is done", stateOf(x).equals(before), true);
        due("undo() takes back the call ahead", x.undo(), true);
        due("row(0, 3)", x.row(0, 3), price);
    }

    /** Rows in slots 0, 1, 2 and 15 of three columns, of all lengths, with told laws: what refused calls may spoil. */
    private static LawFinder busy() {
        LawFinder x = new LawFinder();
        x.table(3);
        x.put(0, 4, 3, 1, 100, 3, 0);
        x.put(1, 0, 1, 1, 0, 0, 0);
        x.put(2, 3, 4, 1, -99, 99, 7);
        x.put(15, 2, 0, 0, 0, 0, 0);
        x.tell(0, 1);
        x.tell(3, 124);
        return x;
    }

    private static LawFinder columns(int c) {
        LawFinder x = new LawFinder();
        x.table(c);
        return x;
    }

    /** All sixteen slots, one column, the number that a slot is given. */
    private static LawFinder full(IntUnaryOperator number) {
        LawFinder x = columns(1);
        for (int s = 0; s < 16; s++) {
            x.put(s, s % 5, 1, number.applyAsInt(s), 0, 0, 0);
        }
        return x;
    }

    /** Two rows of one column. */
    private static LawFinder two(int first, int second) {
        LawFinder x = columns(1);
        x.put(0, 4, 1, first, 0, 0, 0);
        x.put(15, 4, 1, second, 0, 0, 0);
        return x;
    }

    /** Rows (1,5), (1,6), (2,7) of two columns in slots 0, 1, 2. */
    private static LawFinder three() {
        LawFinder x = columns(2);
        x.put(0, 2, 2, 1, 5, 0, 0);
        x.put(1, 2, 2, 1, 6, 0, 0);
        x.put(2, 2, 2, 2, 7, 0, 0);
        return x;
    }

    // What it is

    private static void callsUpToTheLast() {
        LawFinder x = new LawFinder();
        for (int i = 0; i < 505; i++) {
            x.put(i % 16, 0, 1, i % 90, 0, 0, 0);
        }
        due("call 506: at()", x.at(504 % 16, 0), 504 % 90);
        due("call 507: tell()", x.tell(0, 3), true);
        due("call 508: broken()", x.broken(1), 0);
        due("call 509: mend()", x.mend(0), 15);
        due("call 510: undo()", x.undo(), true);
        due("call 511: undo()", x.undo(), true);
        due("call 512: at()", x.at(504 % 16, 0), 488 % 90);
    }

    // Terms

    private static void columnsOneToFour() {
        for (int width = 0; width <= 4; width++) {
            LawFinder x = width == 0 ? new LawFinder() : columns(width);
            int there = width == 0 ? 4 : width;
            x.put(0, 0, 4, 5, 6, 7, 8);
            for (int c = 0; c < 6; c++) {
                due("columns " + there + ": at(0, " + c + ")", x.at(0, c), c < there ? 5 + c : NO_PLACE);
            }
        }
    }

    private static void slotsZeroToFifteen() {
        LawFinder x = new LawFinder();
        for (int s = 0; s < 16; s++) {
            due("at first: row(" + s + ", 0)", x.row(s, 0), 0);
            due("put(" + s + ")", x.put(s, 0, 1, s, 0, 0, 0), true);
            due("row(" + s + ", 0)", x.row(s, 0), 1);
        }
        for (int s = 0; s < 16; s++) {
            due("each slot has its own row: at(" + s + ", 0)", x.at(s, 0), s);
        }
        none("row(-1, 0)", x.row(-1, 0));
        none("row(16, 0)", x.row(16, 0));
    }

    private static void kindsOfRows() {
        LawFinder x = columns(1);
        for (int kind = 0; kind <= 4; kind++) {
            due("put of kind " + kind, x.put(kind, kind, 1, 9, 0, 0, 0), true);
            due("row(" + kind + ", 1)", x.row(kind, 1), kind);
            due("numbers of unlike kinds are the same", kind == 0 ? 1 : x.between(0, kind), 1);
        }
    }

    private static void rowsOfEachLength() {
        LawFinder x = new LawFinder();
        for (int n = 0; n <= 4; n++) {
            due("put with n " + n, x.put(n, 1, n, 11, 12, 13, 14), true);
            due("row(" + n + ", 2)", x.row(n, 2), n);
            for (int c = 0; c < 4; c++) {
                due("n " + n + ": at(.., " + c + ")", x.at(n, c), c < n ? 11 + c : NOTHING);
            }
        }
    }

    private static void numbersBehindTheColumns() {
        for (int width = 1; width < 4; width++) {
            LawFinder x = columns(width);
            x.put(0, 0, 4, 1, width > 1 ? 1 : 5, width > 2 ? 1 : 6, 7);
            x.put(1, 0, 4, 1, width > 1 ? 1 : 8, width > 2 ? 1 : 9, 10);
            int alike = (FIVES[width] - 1) / 4;
            due("between(0, 1)", x.between(0, 1), alike);
            due("pairs", x.pairs(alike), 2);
            due("kinds()", x.kinds(), 1);
            due("broken: alike in all", x.broken(alike), 1);
            due("no key", x.keys(), 0);
            due("settles(0)", x.settles(0), (1 << width) - 1);
            due("at", x.at(0, width), NO_PLACE);
            x.tell(0, 1);
            due("mend(0)", x.mend(0), 1);
        }
    }

    private static void nothingBehindTheRow() {
        LawFinder x = columns(2);
        x.put(0, 0, 1, 5, 5, 0, 0);
        x.put(1, 0, 1, 5, 5, 0, 0);
        due("at(0, 1)", x.at(0, 1), NOTHING);
        due("between: apart", x.between(0, 1), 1 + 10);
        x.put(0, 0, 2, 5, 5, 0, 0);
        x.put(0, 0, 1, 5, 5, 0, 0);
        due("nor is anything left of a longer row", x.at(0, 1), NOTHING);
    }

    private static void nothingWhereNoNumber() {
        LawFinder x = columns(2);
        x.put(0, 4, 2, 100, 99, 0, 0);
        x.put(1, 4, 2, 100, 99, 0, 0);
        due("at(0, 0)", x.at(0, 0), NOTHING);
        due("at(0, 1)", x.at(0, 1), 99);
        due("the row has it in its numbers", x.row(0, 2), 2);
        due("between: apart, alike", x.between(0, 1), 2 + 5);
    }

    private static void priceAtFirst() {
        LawFinder x = new LawFinder();
        for (int kind = 0; kind <= 4; kind++) {
            x.put(kind, kind, kind, 0, 0, 0, 0);
            due("row(.., 3)", x.row(kind, 3), 1);
        }
    }

    private static void alike() {
        for (int v : new int[] {-99, -1, 0, 1, 99}) {
            due("alike at " + v, two(v, v).between(0, 15), 1);
        }
        due("-99 and 99 are not", two(-99, 99).between(0, 15), 3);
        due("0 and nothing are not", two(0, 100).between(0, 15), 2);
    }

    private static void lessAndMore() {
        int[][] rising = {{-99, -98}, {-99, 99}, {-1, 0}, {0, 1}, {-1, 1}, {98, 99}};
        for (int[] both : rising) {
            due("less: " + both[0], two(both[0], both[1]).between(0, 15), 3);
            due("more: " + both[1], two(both[1], both[0]).between(0, 15), 4);
        }
    }

    private static void apart() {
        due("the first has nothing", two(100, 99).between(0, 15), 2);
        due("the second has nothing", two(-99, 100).between(0, 15), 2);
        due("both have nothing", two(100, 100).between(0, 15), 2);
        LawFinder x = new LawFinder();
        x.put(0, 0, 0, 0, 0, 0, 0);
        x.put(1, 4, 4, 100, 100, 100, 100);
        due("a row without numbers and one without a number", x.between(0, 1), 312);
    }

    private static void unlike() {
        due("alike is not", two(4, 4).broken(2), 0);
        due("less is", two(4, 5).broken(2), 1);
        due("more is", two(5, 4).broken(2), 1);
        due("one has nothing: is", two(5, 100).broken(2), 1);
        due("both have nothing: is", two(100, 100).broken(2), 1);
    }

    private static void oneColumnAtLeast() {
        LawFinder x = three();
        none("broken(0)", x.broken(0));
        none("breaker(0, 0, 0)", x.breaker(0, 0, 0));
        none("sort(0)", x.sort(0));
        none("least(0)", x.least(0));
        none("said(0, 1)", x.said(0, 1));
        none("said(1, 0)", x.said(1, 0));
        none("said(0, 0)", x.said(0, 0));
        due("law(120, 4, 0): not 0", x.law(120, 4, 0), 1);
    }

    private static void leastAndGreatestLaw() {
        for (int width = 1; width <= 4; width++) {
            LawFinder x = columns(width);
            due("sort(1)", x.sort(1), 0);
            due("broken(1)", x.broken(1), 0);
            due("sort of the greatest", x.sort(FIVES[width] - 1), width > 1 ? 2 : 3);
            due("least of the greatest", x.least(FIVES[width] - 1), (FIVES[width] - 1) / 4 * 3);
            none("none behind it", x.sort(FIVES[width]));
            none("none behind it", x.least(FIVES[width]));
            none("none behind it", x.broken(FIVES[width]));
            none("no law below", x.sort(-1));
        }
    }

    private static void breaksEitherWay() {
        LawFinder x = two(1, 2);
        due("less: from 0 to 15", x.broken(3), 1);
        due("more: from 15 to 0", x.broken(4), 1);
        LawFinder y = columns(2);
        y.put(0, 0, 2, 1, 2, 0, 0);
        y.put(1, 0, 2, 2, 1, 0, 0);
        due("less, more", y.broken(3 + 20), 1);
        due("more, less", y.broken(4 + 15), 1);
        due("less, less: not all is so, either way", y.broken(3 + 15), 0);
        due("more, more", y.broken(4 + 20), 0);
        due("unlike, less", y.broken(2 + 15), 1);
    }

    private static void holdsWithoutPairs() {
        for (int rows = 0; rows < 2; rows++) {
            LawFinder x = columns(3);
            if (rows == 1) {
                x.put(7, 4, 3, 1, 100, 2, 0);
            }
            for (int law = 1; law < 125; law++) {
                due(rows + " rows: broken(" + law + ")", x.broken(law), 0);
                none(rows + " rows: breaker(" + law + ", 0, 0)", x.breaker(law, 0, 0));
            }
        }
    }

    private static void turnedSaysTheSame() {
        LawFinder x = columns(2);
        x.put(0, 0, 2, 1, 2, 0, 0);
        x.put(1, 0, 2, 2, 1, 0, 0);
        x.put(2, 0, 2, 2, 2, 0, 0);
        x.put(3, 4, 2, 100, 3, 0, 0);
        for (int law = 1; law < 25; law++) {
            int turned = turned(law);
            due("broken(" + turned + ")", x.broken(turned), x.broken(law));
            due("breaker(" + turned + ", 0, 1)", x.breaker(turned, 0, 1), x.breaker(law, 0, 1));
            due("sort(" + turned + ")", x.sort(turned), x.sort(law));
            due("said by its turned one", x.said(law, turned), 1);
        }
    }

    private static int turned(int law) {
        int turned = 0;
        for (int c = 3; c >= 0; c--) {
            int word = law / FIVES[c] % 5;
            turned = turned * 5 + (word > 2 ? 7 - word : word);
        }
        return turned;
    }

    private static void lesserNumberIsTold() {
        LawFinder x = columns(2);
        x.put(0, 0, 2, 1, 1, 0, 0);
        x.put(1, 0, 2, 1, 2, 0, 0);
        x.put(2, 0, 2, 2, 2, 0, 0);
        x.put(3, 0, 2, 2, 1, 0, 0);
        x.strike(3);
        int count = x.laws(0, 4);
        int before = 0;
        for (int i = 0; i < count; i++) {
            int law = x.law(0, 4, i);
            due("the " + i + "-th is the lesser of both", law, Math.min(law, turned(law)));
            due("and no law comes twice", law > before, true);
            before = law;
        }
        due("less, more: told as 19", x.law(0, 4, count - 1), 19);
    }

    private static void eitherMayBeAsked() {
        LawFinder x = two(1, 2);
        due("broken(4)", x.broken(4), 1);
        due("breaker(4, 0, 1)", x.breaker(4, 0, 1), 15);
        due("sort(4)", x.sort(4), 3);
        due("said(4, 4)", x.said(4, 4), 1);
        due("said(3, 4)", x.said(3, 4), 1);
        due("tell(0, 4)", x.tell(0, 4), true);
        due("mend(1)", x.mend(1), 1);
        due("mend(2)", x.mend(2), 1);
    }

    private static void saidColumnByColumn() {
        LawFinder x = columns(1);
        int[][] said = {{1, 0, 0, 0}, {0, 1, 0, 0}, {0, 1, 1, 1}, {0, 1, 1, 1}};
        for (int law = 1; law <= 4; law++) {
            for (int by = 1; by <= 4; by++) {
                due("said(" + law + ", " + by + ")", x.said(law, by), said[law - 1][by - 1]);
            }
        }
        x.table(4);
        due("all four columns, by one", x.said(156, 125), 1);
        due("one, by all four columns", x.said(125, 156), 0);
        due("all the way turned", x.said(468, 624), 1);
        due("turned in one column alone", x.said(468, 624 - 125), 0);
        due("by unlike in all", x.said(468, 312), 1);
        due("by unlike and more, as less", x.said(3 + 15, 2 + 20), 1);
    }

    private static void atMostB() {
        LawFinder x = full(s -> s);
        due("broken(2)", x.broken(2), 120);
        due("b 119: unlike is not near", x.laws(119, 1), 1);
        due("b 120: it is", x.laws(120, 1), 2);
        LawFinder y = three();
        due("alike in column 0 is broken once", y.broken(1), 1);
        due("b 0: it is not near", y.law(0, 4, 0), 5);
        due("b 1: it is", y.law(1, 4, 0), 1);
    }

    private static void leastOnes() {
        LawFinder x = two(7, 7);
        due("less alone holds, but unlike says it", x.laws(0, 1), 1);
        due("law(0, 1, 0)", x.law(0, 1, 0), 2);
        LawFinder y = columns(1);
        y.put(0, 4, 1, 100, 0, 0, 0);
        y.put(1, 4, 1, 5, 0, 0, 0);
        due("apart: alike, and less with its turned one", y.laws(0, 1), 2);
        due("alike", y.law(0, 1, 0), 1);
        due("less, though more is near too", y.law(0, 1, 1), 3);
        none("more is not told", y.law(0, 1, 2));
    }

    private static void sorts() {
        LawFinder x = new LawFinder();
        due("key of one column", x.sort(125), 0);
        due("key of four", x.sort(156), 0);
        due("unlike alone leads", x.sort(2), 1);
        due("unlike beside three alike", x.sort(250 + 31), 1);
        due("two unlike do not lead", x.sort(250 + 50 + 6), 3);
        due("four unlike", x.sort(312), 3);
        due("less of one column does not rise", x.sort(375), 3);
        due("less of one beside unlike", x.sort(375 + 2), 3);
        due("more of one beside alike", x.sort(500 + 1), 3);
        due("two columns rise", x.sort(375 + 3), 2);
        due("one less, one more", x.sort(500 + 3), 2);
        due("two beside unlike and alike", x.sort(375 + 100 + 10 + 1), 2);
        due("four rise", x.sort(468), 2);
    }

    private static void ownColumnsAlways() {
        LawFinder x = columns(2);
        x.put(0, 0, 0, 0, 0, 0, 0);
        x.put(1, 0, 0, 0, 0, 0, 0);
        due("two rows of nothing: the empty set settles nothing", x.settles(0), 0);
        due("none is alike there", x.settles(1), 3);
        due("the own one", three().settles(1), 1);
        due("another one beside it", three().settles(2), 3);
        LawFinder y = new LawFinder();
        y.put(0, 0, 4, 1, 2, 3, 4);
        y.put(1, 0, 4, 1, 2, 4, 5);
        y.put(2, 0, 4, 2, 2, 4, 6);
        int[] settled = {2, 3, 2, 3, 6, 15, 6, 15, 15, 15, 15, 15, 15, 15, 15, 15};
        for (int set = 0; set < 16; set++) {
            due("settles(" + set + ")", y.settles(set), settled[set]);
        }
    }

    private static void leastKeysOnly() {
        LawFinder x = new LawFinder();
        x.put(0, 0, 4, 0, 0, 0, 0);
        x.put(1, 0, 4, 1, 0, 0, 0);
        x.put(2, 0, 4, 0, 1, 0, 0);
        x.put(3, 0, 4, 0, 0, 1, 0);
        x.put(4, 0, 4, 0, 0, 0, 1);
        due("one alone, of all columns", x.keys(), 1);
        due("key(0)", x.key(0), 15);
        LawFinder y = new LawFinder();
        for (int c = 0; c < 4; c++) {
            y.put(2 * c, 0, 4, 8 * c, 8 * c + 1, 8 * c + 2, 8 * c + 3);
            y.put(2 * c + 1, 0, 4, 8 * c + 4, 8 * c + 5, 8 * c + 6, 8 * c + 7);
            y.change(2 * c + 1, c, 8 * c + c);
        }
        int[] pairs = {3, 5, 6, 9, 10, 12, -1};
        due("the most there can be", y.keys(), 6);
        for (int i = 0; i < pairs.length; i++) {
            due("key(" + i + ")", y.key(i), pairs[i]);
        }
    }

    private static void leastSumThenLeastNumber() {
        LawFinder x = columns(1);
        x.put(0, 0, 1, 1, 0, 0, 0);
        x.put(1, 0, 1, 2, 0, 0, 0);
        x.put(15, 0, 1, 2, 0, 0, 0);
        x.tell(0, 2);
        due("the least sum", x.mend(1), 1);
        x.price(0, 2);
        due("the same sum: the least number", x.mend(1), 1);
        x.price(0, 3);
        due("a sum greater by one", x.mend(1), 2 + 32768);
        x.price(0, 0);
        x.price(1, 0);
        x.price(15, 0);
        due("all for nothing: the least number", x.mend(1), 1);
        LawFinder y = two(3, 4);
        y.tell(0, 2);
        y.price(0, 99);
        due("the greater number is cheaper", y.mend(1), 32768);
        due("mend(0)", y.mend(0), 1);
    }

    // Promises

    private static void newObject() {
        LawFinder x = new LawFinder();
        due("told(0)", x.told(0), 0);
        due("told(3)", x.told(3), 0);
        for (int s = 0; s < 16; s++) {
            due("row(" + s + ", 0)", x.row(s, 0), 0);
            due("at(" + s + ", 0)", x.at(s, 0), NO_PLACE);
            due("strike(" + s + ")", x.strike(s), false);
        }
        due("settles(15)", x.settles(15), 15);
        none("settles(16)", x.settles(16));
        due("undo()", x.undo(), false);
        due("mend", x.mend(0) + x.mend(1) + x.mend(2), 0);
        due("kinds()", x.kinds(), 0);
    }

    private static void tableEmptiesAll() {
        LawFinder x = full(s -> s);
        for (int i = 0; i < 4; i++) {
            x.tell(i, i + 1);
        }
        due("table(1) of the same width", x.table(1), true);
        for (int s = 0; s < 16; s++) {
            due("row(" + s + ", 0)", x.row(s, 0), 0);
        }
        for (int i = 0; i < 4; i++) {
            due("told(" + i + ")", x.told(i), 0);
        }
        due("kinds()", x.kinds(), 0);
        due("mend(2)", x.mend(2), 0);
        due("table(4)", x.table(4), true);
        due("put in a wider one", x.put(0, 0, 4, 1, 2, 3, 4), true);
        due("at(0, 3)", x.at(0, 3), 4);
    }

    private static void tableRefuses() {
        refuses(busy(), x -> x.table(0), x -> x.table(5), x -> x.table(-1), x -> x.table(-4), x -> x.table(6),
                x -> x.table(1 << 16), x -> x.table((1 << 30) + 2), x -> x.table(MIN), x -> x.table(MIN + 2),
                x -> x.table(MAX));
    }

    private static void numbersFromLeastToGreatest() {
        LawFinder x = new LawFinder();
        for (int kind = 0; kind <= 4; kind++) {
            due("kind " + kind, x.put(0, kind, 4, -99, 99, -98, 98), true);
            due("at(0, 0)", x.at(0, 0), -99);
            due("at(0, 1)", x.at(0, 1), 99);
            due("at(0, 2)", x.at(0, 2), -98);
            due("at(0, 3)", x.at(0, 3), 98);
        }
    }

    private static void noNumberOfDoublesAlone() {
        LawFinder x = new LawFinder();
        for (int kind = 0; kind < 4; kind++) {
            due("a of kind " + kind, x.put(0, kind, 4, 100, 0, 0, 0), false);
            due("b of kind " + kind, x.put(0, kind, 4, 0, 100, 0, 0), false);
            due("c of kind " + kind, x.put(0, kind, 4, 0, 0, 100, 0), false);
            due("d of kind " + kind, x.put(0, kind, 4, 0, 0, 0, 100), false);
        }
        due("nothing is done", x.row(0, 0), 0);
        due("of doubles", x.put(0, 4, 4, 100, 100, 100, 100), true);
        for (int c = 0; c < 4; c++) {
            due("at(0, " + c + ")", x.at(0, c), NOTHING);
        }
    }

    private static void thoseBehindMayBeAny() {
        LawFinder x = new LawFinder();
        for (int v : NO_NUMBERS) {
            for (int kind = 0; kind <= 4; kind += 2) {
                due("n 0", x.put(0, kind, 0, v, v, v, v), true);
                due("n 1", x.put(0, kind, 1, 1, v, v, v), true);
                due("n 2", x.put(0, kind, 2, 1, 2, v, v), true);
                due("n 3", x.put(0, kind, 3, 1, 2, 3, v), true);
                due("at(0, 2)", x.at(0, 2), 3);
                due("at(0, 3)", x.at(0, 3), NOTHING);
            }
        }
    }

    private static void inPlaceOfOne() {
        LawFinder x = full(s -> s);
        x.price(15, 99);
        due("a full table takes it", x.put(15, 4, 1, 3, 0, 0, 0), true);
        due("its price", x.row(15, 3), 1);
        due("its kind", x.row(15, 1), 4);
        due("its number", x.at(15, 0), 3);
        due("the old one is in no pair", x.broken(1), 1);
        due("breaker(1, 0, 0)", x.breaker(1, 0, 0), 3);
        due("a shorter one", x.put(15, 0, 0, 0, 0, 0, 0), true);
        due("nothing is left", x.at(15, 0), NOTHING);
    }

    private static void putRefusesSlots() {
        Call[] calls = new Call[NO_SLOTS.length];
        for (int i = 0; i < calls.length; i++) {
            int s = NO_SLOTS[i];
            calls[i] = x -> x.put(s, 0, 1, 5, 0, 0, 0);
        }
        refuses(busy(), calls);
    }

    private static void putRefusesKinds() {
        int[] kinds = {-1, 5, 6, MIN, MAX};
        Call[] calls = new Call[kinds.length];
        for (int i = 0; i < calls.length; i++) {
            int kind = kinds[i];
            calls[i] = x -> x.put(0, kind, 1, 5, 0, 0, 0);
        }
        refuses(busy(), calls);
    }

    private static void putRefusesLengths() {
        int[] lengths = {-1, 5, 6, MIN, MAX};
        Call[] calls = new Call[lengths.length];
        for (int i = 0; i < calls.length; i++) {
            int n = lengths[i];
            calls[i] = x -> x.put(0, 0, n, 5, 5, 5, 5);
        }
        refuses(busy(), calls);
    }

    private static void putRefusesNumbers() {
        for (int v : NO_NUMBERS) {
            refuses(busy(), x -> x.put(0, 4, 1, v, 0, 0, 0), x -> x.put(0, 4, 2, 0, v, 0, 0),
                    x -> x.put(0, 4, 3, 0, 0, v, 0), x -> x.put(0, 4, 4, 0, 0, 0, v),
                    x -> x.put(3, 0, 1, v, 0, 0, 0), x -> x.put(3, 1, 4, 0, 0, v, 0));
        }
        refuses(busy(), x -> x.put(0, 0, 1, 100, 0, 0, 0), x -> x.put(0, 3, 4, 0, 0, 0, 100));
    }

    private static void changeToLeastAndGreatest() {
        LawFinder x = new LawFinder();
        x.put(15, 0, 4, 1, 2, 3, 4);
        for (int c = 0; c < 4; c++) {
            due("change(15, " + c + ", -99)", x.change(15, c, -99), true);
            due("at(15, " + c + ")", x.at(15, c), -99);
            due("change(15, " + c + ", 99)", x.change(15, c, 99), true);
            due("at(15, " + c + ")", x.at(15, c), 99);
        }
        due("its length stays", x.row(15, 2), 4);
    }

    private static void changeRefusesWithoutRow() {
        Call[] calls = new Call[NO_SLOTS.length + 1];
        for (int i = 0; i < NO_SLOTS.length; i++) {
            int s = NO_SLOTS[i];
            calls[i] = x -> x.change(s, 0, 5);
        }
        calls[NO_SLOTS.length] = x -> x.change(3, 0, 5);
        refuses(busy(), calls);
    }

    private static void changeRefusesColumns() {
        refuses(busy(), x -> x.change(2, -1, 5), x -> x.change(2, 3, 5), x -> x.change(2, 4, 5),
                x -> x.change(2, MIN, 5), x -> x.change(2, MAX, 5), x -> x.change(0, 3, 5), x -> x.change(2, 1 << 30, 5));
    }

    private static void changeRefusesBehindTheRow() {
        refuses(busy(), x -> x.change(1, 1, 5), x -> x.change(1, 2, 5), x -> x.change(15, 0, 5));
        LawFinder x = busy();
        due("its last one is changed", x.change(1, 0, 5), true);
        due("at(1, 0)", x.at(1, 0), 5);
        x.put(15, 4, 2, 1, 1, 0, 0);
        due("nor is nothing put behind doubles", x.change(15, 2, 100), false);
    }

    private static void changeRefusesNumbers() {
        for (int v : NO_NUMBERS) {
            refuses(busy(), x -> x.change(0, 0, v), x -> x.change(0, 1, v), x -> x.change(1, 0, v),
                    x -> x.change(2, 2, v));
        }
        refuses(busy(), x -> x.change(1, 0, 100), x -> x.change(2, 0, 100));
        LawFinder x = new LawFinder();
        for (int kind = 0; kind < 4; kind++) {
            x.put(0, kind, 1, 5, 0, 0, 0);
            due("100 in kind " + kind, x.change(0, 0, 100), false);
            due("at(0, 0)", x.at(0, 0), 5);
        }
    }

    private static void noNumberComesAndGoes() {
        LawFinder x = busy();
        due("it was none", x.at(0, 1), NOTHING);
        due("it becomes one", x.change(0, 1, 0), true);
        due("at(0, 1)", x.at(0, 1), 0);
        due("and none again", x.change(0, 1, 100), true);
        due("at(0, 1)", x.at(0, 1), NOTHING);
        due("and stays none", x.change(0, 1, 100), true);
        due("the length stays", x.row(0, 2), 3);
        due("undo()", x.undo() && x.undo(), true);
        due("it is the number again", x.at(0, 1), 0);
    }

    private static void strikeAllOfAFullTable() {
        LawFinder x = full(s -> s);
        for (int s = 15; s >= 0; s--) {
            due("strike(" + s + ")", x.strike(s), true);
            due("row(" + s + ", 0)", x.row(s, 0), 0);
            due("at(" + s + ", 0)", x.at(s, 0), NO_PLACE);
            due("pairs that are left", x.broken(3), s * (s - 1) / 2);
        }
        due("the empty set is a key", x.key(0), 0);
    }

    private static void strikeRefuses() {
        Call[] calls = new Call[NO_SLOTS.length + 2];
        for (int i = 0; i < NO_SLOTS.length; i++) {
            int s = NO_SLOTS[i];
            calls[i] = x -> x.strike(s);
        }
        calls[NO_SLOTS.length] = x -> x.strike(3);
        calls[NO_SLOTS.length + 1] = x -> x.strike(14);
        refuses(busy(), calls);
        LawFinder x = busy();
        due("strike(15)", x.strike(15), true);
        due("again", x.strike(15), false);
    }

    private static void pricesFromZero() {
        LawFinder x = two(1, 1);
        due("price(15, 0)", x.price(15, 0), true);
        due("row(15, 3)", x.row(15, 3), 0);
        due("price(15, 99)", x.price(15, 99), true);
        due("row(15, 3)", x.row(15, 3), 99);
        due("the other one's stays", x.row(0, 3), 1);
    }

    private static void priceRefuses() {
        Call[] calls = new Call[NO_SLOTS.length + 1];
        for (int i = 0; i < NO_SLOTS.length; i++) {
            int s = NO_SLOTS[i];
            calls[i] = x -> x.price(s, 5);
        }
        calls[NO_SLOTS.length] = x -> x.price(3, 5);
        refuses(busy(), calls);
    }

    private static void priceRefusesValues() {
        refuses(busy(), x -> x.price(0, -1), x -> x.price(0, 100), x -> x.price(0, 101), x -> x.price(0, 256),
                x -> x.price(0, MIN), x -> x.price(0, MAX), x -> x.price(15, -99));
    }

    private static void swapInAllRows() {
        LawFinder x = new LawFinder();
        due("without rows", x.swap(0, 3), true);
        due("a column with itself", x.swap(3, 3), true);
        for (int s = 0; s < 16; s++) {
            x.put(s, s % 5, 4, s, 20 + s, 40 + s, 60 + s);
        }
        due("the first and the last", x.swap(0, 3), true);
        due("the other way round", x.swap(2, 1), true);
        for (int s = 0; s < 16; s++) {
            for (int c = 0; c < 4; c++) {
                due("at(" + s + ", " + c + ")", x.at(s, c), s + 20 * (3 - c));
            }
        }
        due("a column with itself", x.swap(3, 3), true);
        due("at(15, 3)", x.at(15, 3), 15);
    }

    private static void swapRefusesColumns() {
        LawFinder x = columns(2);
        x.put(0, 0, 4, 1, 2, 3, 4);
        int[] no = {-1, 2, 3, 4, 5, MIN, MAX};
        Call[] calls = new Call[2 * no.length + 1];
        for (int i = 0; i < no.length; i++) {
            int c = no[i];
            calls[2 * i] = y -> y.swap(c, 0);
            calls[2 * i + 1] = y -> y.swap(1, c);
        }
        calls[2 * no.length] = y -> y.swap(2, 2);
        refuses(x, calls);
    }

    private static void swapRefusesShortRows() {
        LawFinder x = new LawFinder();
        x.put(0, 0, 4, 1, 2, 3, 4);
        x.put(15, 0, 2, 5, 6, 0, 0);
        refuses(x, y -> y.swap(0, 2), y -> y.swap(2, 0), y -> y.swap(1, 3), y -> y.swap(2, 3), y -> y.swap(3, 3));
        due("the short one has both", x.swap(0, 1), true);
        due("at(15, 0)", x.at(15, 0), 6);
        due("at(0, 0)", x.at(0, 0), 2);
        x.put(15, 0, 0, 0, 0, 0, 0);
        due("a row without numbers", x.swap(0, 0), false);
        x.strike(15);
        due("without it", x.swap(0, 3), true);
        x.put(1, 0, 4, 1, 2, 3, 4);
        x.put(0, 0, 3, 1, 2, 3, 4);
        due("the first row ends ahead", x.swap(0, 3), false);
        due("it has both", x.swap(2, 0), true);
    }

    private static void swapOfNoNumber() {
        LawFinder x = columns(2);
        x.put(0, 4, 2, 100, 5, 0, 0);
        x.put(1, 4, 2, 100, 100, 0, 0);
        due("swap(0, 1)", x.swap(0, 1), true);
        due("at(0, 0)", x.at(0, 0), 5);
        due("at(0, 1)", x.at(0, 1), NOTHING);
        due("at(1, 0)", x.at(1, 0), NOTHING);
        due("it can become a number there", x.change(0, 1, 6), true);
        due("at(0, 1)", x.at(0, 1), 6);
    }

    private static void atNothing() {
        LawFinder x = busy();
        due("no number", x.at(0, 1), NOTHING);
        due("behind the row", x.at(1, 1), NOTHING);
        due("behind the row", x.at(1, 2), NOTHING);
        due("a row without numbers", x.at(15, 0), NOTHING);
        due("a number", x.at(2, 1), -99);
    }

    private static void atNoPlace() {
        LawFinder x = busy();
        for (int s : NO_SLOTS) {
            due("at(" + s + ", 0)", x.at(s, 0), NO_PLACE);
        }
        due("no row", x.at(3, 0), NO_PLACE);
        for (int c : new int[] {-1, 3, 4, MIN, MAX}) {
            due("at(2, " + c + ")", x.at(2, c), NO_PLACE);
            due("at(15, " + c + ")", x.at(15, c), NO_PLACE);
            due("at(3, " + c + ")", x.at(3, c), NO_PLACE);
        }
    }

    private static void rowOrNone() {
        LawFinder x = busy();
        due("row(15, 0)", x.row(15, 0), 1);
        due("row(14, 0)", x.row(14, 0), 0);
        for (int what = 1; what <= 3; what++) {
            none("without a row: row(14, " + what + ")", x.row(14, what));
        }
        x.strike(15);
        for (int what = 1; what <= 3; what++) {
            none("the row went: row(15, " + what + ")", x.row(15, what));
        }
    }

    private static void rowOfNoSlot() {
        LawFinder x = busy();
        for (int s : NO_SLOTS) {
            for (int what = 0; what <= 3; what++) {
                none("row(" + s + ", " + what + ")", x.row(s, what));
            }
        }
        for (int what : new int[] {-1, 4, 5, MIN, MAX}) {
            none("row(0, " + what + ")", x.row(0, what));
            none("row(14, " + what + ")", x.row(14, what));
        }
    }

    private static void betweenNone() {
        LawFinder x = busy();
        for (int s : NO_SLOTS) {
            none("between(" + s + ", 0)", x.between(s, 0));
            none("between(0, " + s + ")", x.between(0, s));
            none("between(" + s + ", " + s + ")", x.between(s, s));
        }
        none("no row", x.between(0, 3));
        none("no row", x.between(3, 0));
        for (int s = 0; s < 16; s++) {
            none("the same", x.between(s, s));
        }
        due("the first and the last slot", two(5, 6).between(15, 0), 4);
    }

    private static void betweenLeastAndGreatest() {
        LawFinder x = new LawFinder();
        x.put(0, 0, 4, 1, 1, 1, 1);
        x.put(1, 0, 4, 1, 1, 1, 1);
        x.put(2, 0, 4, 0, 0, 0, 0);
        due("all alike", x.between(0, 1), 156);
        due("all more", x.between(0, 2), 624);
        due("all less", x.between(2, 0), 468);
    }

    private static void eachPairTwice() {
        due("one pair, alike", two(5, 5).pairs(1), 2);
        due("one pair, less", two(5, 6).pairs(3), 1);
        due("one pair, more", two(5, 6).pairs(4), 1);
        due("one pair, apart", two(5, 100).pairs(2), 2);
        due("all sixteen alike", full(s -> 7).pairs(1), 240);
        due("all sixteen apart", full(s -> s == 4 ? 1 : 0).pairs(1), 210);
        due("all sixteen rising", full(s -> s).pairs(3), 120);
        due("and falling", full(s -> s).pairs(4), 120);
        due("no rows", columns(1).pairs(1), 0);
    }

    private static void cannotBeTold() {
        for (int width = 1; width <= 4; width++) {
            LawFinder x = columns(width);
            due("the least", x.pairs((FIVES[width] - 1) / 4), 0);
            none("one below the least", x.pairs((FIVES[width] - 1) / 4 - 1));
            due("the greatest", x.pairs(FIVES[width] - 1), 0);
            none("one behind the greatest", x.pairs(FIVES[width]));
            for (int number : new int[] {0, -1, MIN, MIN + 1, MAX, 1 << 16, -FIVES[width] + 1}) {
                none("pairs(" + number + ")", x.pairs(number));
            }
        }
        LawFinder y = new LawFinder();
        none("nothing is told of column 0", y.pairs(155));
        none("of column 1", y.pairs(151));
        none("of column 2", y.pairs(131));
        none("of column 3", y.pairs(31));
        none("a number of five columns", y.pairs(781));
    }

    private static void kindsFromNone() {
        due("no rows", new LawFinder().kinds(), 0);
        LawFinder x = columns(1);
        x.put(9, 0, 1, 5, 0, 0, 0);
        due("one row", x.kinds(), 0);
        due("two alike", two(5, 5).kinds(), 1);
        due("two apart", two(5, 100).kinds(), 1);
        due("two unlike", two(5, 6).kinds(), 2);
        LawFinder all = two(5, 5);
        all.put(1, 4, 1, 100, 0, 0, 0);
        all.put(2, 4, 1, 6, 0, 0, 0);
        due("all that one column can be", all.kinds(), 4);
        due("a full table", full(s -> s).kinds(), 2);
    }

    private static void brokenByAll() {
        due("all pairs of a full table", full(s -> 7).broken(1), 120);
        due("all pairs unlike", full(s -> s).broken(2), 120);
        due("all pairs less", full(s -> s).broken(3), 120);
        due("all pairs more", full(s -> s).broken(4), 120);
        LawFinder x = new LawFinder();
        for (int s = 0; s < 16; s++) {
            x.put(s, 0, 4, s, -s, s, -s);
        }
        due("of four columns", x.broken(3 + 20 + 75 + 500), 120);
        due("no pair", x.broken(468), 0);
    }

    private static void brokenOfNoLaw() {
        for (int width = 1; width <= 4; width++) {
            LawFinder x = columns(width);
            x.put(0, 0, 4, 1, 1, 1, 1);
            x.put(1, 0, 4, 1, 1, 1, 1);
            due("the least law", x.broken(1), 1);
            due("the greatest law", x.broken(FIVES[width] - 1), 0);
            for (int law : noLaws(width)) {
                none("broken(" + law + ")", x.broken(law));
            }
        }
    }

    private static int[] noLaws(int width) {
        return new int[] {0, -1, -3, FIVES[width], FIVES[width] + 1, 1 - FIVES[width], 3125, 1 << 16, MIN, MIN + 1, MAX};
    }

    private static void breakersInOrder() {
        LawFinder x = full(s -> -s);
        int k = 0;
        for (int s = 0; s < 16; s++) {
            for (int t = s + 1; t < 16; t++) {
                due("breaker(3, " + k + ", 0)", x.breaker(3, k, 0), s);
                due("breaker(3, " + k + ", 1)", x.breaker(3, k, 1), t);
                k++;
            }
        }
        none("breaker(3, 120, 0)", x.breaker(3, 120, 0));
        none("breaker(3, 120, 1)", x.breaker(3, 120, 1));
    }

    private static void breakerNone() {
        LawFinder x = three();
        for (int k : new int[] {-1, 1, 2, 120, MIN, MAX}) {
            none("breaker(1, " + k + ", 0)", x.breaker(1, k, 0));
            none("breaker(1, " + k + ", 1)", x.breaker(1, k, 1));
        }
        for (int what : new int[] {-1, 2, 3, MIN, MAX}) {
            none("breaker(1, 0, " + what + ")", x.breaker(1, 0, what));
        }
        for (int law : noLaws(2)) {
            none("breaker(" + law + ", 0, 0)", x.breaker(law, 0, 0));
        }
        none("a law that holds", x.breaker(5, 0, 0));
    }

    private static void lawsFromLeastToGreatest() {
        LawFinder x = new LawFinder();
        due("no rows: b 0, m 1", x.laws(0, 1), 8);
        due("b 120, m 4", x.laws(120, 4), 8);
        due("one column", columns(1).laws(0, 4), 2);
        LawFinder y = columns(2);
        y.put(0, 4, 2, 1, 1, 0, 0);
        y.put(1, 4, 2, 1, 1, 0, 0);
        y.put(2, 4, 2, 1, 2, 0, 0);
        y.put(3, 4, 2, 2, 1, 0, 0);
        due("none of one column", y.laws(0, 1), 0);
        due("some of two columns", y.laws(0, 2), 1);
        due("more than the columns there are", y.laws(0, 3), 1);
        due("the same", y.laws(0, 4), 1);
        due("which is less, less", y.law(0, 4, 0), 18);
        y.put(4, 4, 2, 3, 3, 0, 0);
        y.put(5, 4, 2, 100, 100, 0, 0);
        due("no law is left", y.laws(0, 4), 0);
        none("law(0, 4, 0)", y.law(0, 4, 0));
    }

    private static void lawsThatCannotBe() {
        LawFinder x = three();
        for (int b : new int[] {-1, 121, 122, -120, MIN, MAX}) {
            none("laws(" + b + ", 1)", x.laws(b, 1));
            none("laws(" + b + ", 4)", x.laws(b, 4));
        }
        for (int m : new int[] {0, 5, -1, -4, MIN, MAX}) {
            none("laws(0, " + m + ")", x.laws(0, m));
            none("laws(120, " + m + ")", x.laws(120, m));
        }
        due("b 120, m 4", x.laws(120, 4), 4);
        due("b 0, m 1", x.laws(0, 1), 1);
    }

    private static void lawNone() {
        LawFinder x = three();
        for (int i : new int[] {-1, 2, 3, 625, MIN, MAX}) {
            none("law(0, 4, " + i + ")", x.law(0, 4, i));
        }
        for (int b : new int[] {-1, 121, MIN, MAX}) {
            none("law(" + b + ", 4, 0)", x.law(b, 4, 0));
        }
        for (int m : new int[] {0, 5, -1, MIN, MAX}) {
            none("law(0, " + m + ", 0)", x.law(0, m, 0));
        }
        due("the first", x.law(0, 4, 0), 5);
        due("the last", x.law(0, 4, 1), 19);
        due("the first of one column", x.law(0, 1, 0), 5);
        none("no second of one column", x.law(0, 1, 1));
    }

    private static void sortNone() {
        for (int width = 1; width <= 4; width++) {
            LawFinder x = columns(width);
            for (int law : noLaws(width)) {
                none("columns " + width + ": sort(" + law + ")", x.sort(law));
            }
            due("sort(" + FIVES[width - 1] + ")", x.sort(FIVES[width - 1]), 0);
        }
    }

    private static void leastNone() {
        for (int width = 1; width <= 4; width++) {
            LawFinder x = columns(width);
            for (int law : noLaws(width)) {
                none("columns " + width + ": least(" + law + ")", x.least(law));
            }
            due("least(1)", x.least(1), 1);
        }
    }

    private static void leastOfEach() {
        LawFinder x = columns(3);
        for (int law = 1; law < 125; law++) {
            due("least(" + law + ")", x.least(law), Math.min(law, turned(law)));
        }
    }

    private static void saidNone() {
        for (int width = 1; width <= 4; width++) {
            LawFinder x = columns(width);
            for (int law : noLaws(width)) {
                none("said(" + law + ", 1)", x.said(law, 1));
                none("said(1, " + law + ")", x.said(1, law));
                none("said(" + law + ", " + law + ")", x.said(law, law));
            }
        }
    }

    private static void settlesNone() {
        for (int width = 1; width <= 4; width++) {
            LawFinder x = columns(width);
            int all = (1 << width) - 1;
            due("no pair: the empty set settles all", x.settles(0), all);
            due("all settle all", x.settles(all), all);
            for (int set : new int[] {all + 1, all + 2, -1, -2, 16, 1 << 30, MIN, MIN + 1, MAX}) {
                none("columns " + width + ": settles(" + set + ")", x.settles(set));
            }
        }
    }

    private static void emptySetIsKey() {
        LawFinder x = new LawFinder();
        due("no rows: keys()", x.keys(), 1);
        due("key(0)", x.key(0), 0);
        x.put(15, 0, 4, 1, 2, 3, 4);
        due("one row: keys()", x.keys(), 1);
        due("key(0)", x.key(0), 0);
        x.put(0, 0, 4, 5, 2, 3, 4);
        due("a pair: keys()", x.keys(), 1);
        due("key(0)", x.key(0), 1);
        x.change(0, 0, 1);
        due("a pair that is alike: none", x.keys(), 0);
        none("key(0)", x.key(0));
        x.strike(0);
        due("one row again", x.key(0), 0);
    }

    private static void keyNone() {
        LawFinder x = three();
        due("key(0)", x.key(0), 2);
        for (int i : new int[] {-1, 1, 2, 6, 16, MIN, MAX}) {
            none("key(" + i + ")", x.key(i));
        }
    }

    private static void tellEach() {
        LawFinder x = new LawFinder();
        for (int i = 0; i < 4; i++) {
            due("tell(" + i + ")", x.tell(i, 621 + i), true);
        }
        for (int i = 0; i < 4; i++) {
            due("told(" + i + ")", x.told(i), 621 + i);
        }
        due("the least law, in place of one", x.tell(3, 1), true);
        due("told(3)", x.told(3), 1);
        due("the same law twice", x.tell(2, 1), true);
        due("told(2)", x.told(2), 1);
    }

    private static void tellNone() {
        LawFinder x = two(5, 5);
        x.tell(3, 1);
        due("mend(2)", x.mend(2), 1);
        due("tell(3, 0)", x.tell(3, 0), true);
        due("told(3)", x.told(3), 0);
        due("mend(2)", x.mend(2), 0);
        due("where there is none", x.tell(0, 0), true);
        due("that is a call that was done", x.undo() && x.undo(), true);
        due("told(3)", x.told(3), 1);
    }

    private static void tellRefuses() {
        refuses(busy(), x -> x.tell(-1, 1), x -> x.tell(4, 1), x -> x.tell(5, 1), x -> x.tell(MIN, 1),
                x -> x.tell(MAX, 1), x -> x.tell(4, 0), x -> x.tell(-1, 0));
        int[] laws = noLaws(3);
        Call[] calls = new Call[laws.length - 1];
        for (int i = 1; i < laws.length; i++) {
            int law = laws[i];
            calls[i - 1] = x -> x.tell(0, law);
        }
        refuses(busy(), calls);
    }

    private static void toldNone() {
        LawFinder x = busy();
        due("told(0)", x.told(0), 1);
        due("told(3)", x.told(3), 124);
        due("without one", x.told(1), 0);
        for (int i : new int[] {-1, 4, 5, MIN, MAX}) {
            none("told(" + i + ")", x.told(i));
        }
    }

    private static void mendOfNothing() {
        for (int what = 0; what <= 2; what++) {
            due("a new object", new LawFinder().mend(what), 0);
            due("no told laws", full(s -> 7).mend(what), 0);
            LawFinder x = columns(1);
            x.tell(0, 1);
            due("no rows", x.mend(what), 0);
            x.put(3, 0, 1, 5, 0, 0, 0);
            due("one row", x.mend(what), 0);
            x.put(4, 0, 1, 6, 0, 0, 0);
            due("no pair breaks it", x.mend(what), 0);
        }
    }

    private static void mendOfAFullTable() {
        LawFinder x = full(s -> s < 8 ? 1 : 2);
        for (int s = 0; s < 16; s++) {
            x.price(s, 99);
        }
        x.tell(0, 1);
        x.tell(3, 2);
        due("all but one go", x.mend(0), 15 * 99);
        due("the last one stays", x.mend(1), 32767);
        due("all pairs, each once", x.mend(2), 120);
        x.tell(0, 0);
        due("one half goes", x.mend(0), 8 * 99);
        due("the lesser one", x.mend(1), 255);
        x.price(15, 98);
        due("the cheaper one", x.mend(1), 65280);
    }

    private static void mendOfSeveralParts() {
        LawFinder x = full(s -> s / 2);
        x.tell(3, 1);
        due("eight pairs: one of each goes", x.mend(0), 8);
        due("the lesser ones", x.mend(1), 0x5555);
        x.price(0, 2);
        x.price(14, 2);
        due("but for those that are dearer", x.mend(1), 0x5555 - 1 + 2 - (1 << 14) + (1 << 15));
        LawFinder y = full(s -> s % 5);
        y.tell(0, 1);
        due("one of each five numbers stays", y.mend(0), 11);
        due("the last ones", y.mend(1), 0x07FF);
        LawFinder z = full(s -> s == 15 ? 1 : 2);
        z.tell(0, 2);
        due("the last one against all others goes", z.mend(1), 1 << 15);
        z.price(15, 15);
        due("as dear as all others: the least number", z.mend(1), (1 << 15) - 1);
        z.price(15, 14);
        due("cheaper by one", z.mend(1), 1 << 15);
    }

    private static void mendForNothing() {
        LawFinder x = full(s -> 7);
        for (int s = 0; s < 16; s++) {
            x.price(s, 0);
        }
        x.tell(2, 1);
        due("for nothing", x.mend(0), 0);
        due("the last one stays", x.mend(1), 32767);
        x.tell(2, 2);
        due("no pair breaks: none goes, though all are for nothing", x.mend(1), 0);
    }

    private static void pairsThatBreakSeveral() {
        LawFinder x = two(5, 6);
        x.tell(0, 2);
        x.tell(1, 3);
        x.tell(2, 4);
        x.tell(3, 3);
        due("a pair that breaks all four counts once", x.mend(2), 1);
        x.tell(0, 1);
        x.tell(1, 0);
        x.tell(2, 0);
        due("it breaks the last one alone", x.mend(2), 1);
        x.tell(3, 0);
        due("it breaks none", x.mend(2), 0);
        LawFinder y = full(s -> s / 2);
        y.tell(0, 1);
        due("eight pairs alike", y.mend(2), 8);
        y.tell(1, 2);
        due("with all that are unlike: all pairs", y.mend(2), 120);
    }

    private static void mendNone() {
        LawFinder x = busy();
        for (int what : new int[] {-1, 3, 4, MIN, MAX}) {
            none("mend(" + what + ")", x.mend(what));
        }
    }

    private static void undoOfEach() {
        Call[] calls = {x -> x.table(1), x -> x.put(3, 1, 2, 9, 9, 0, 0), x -> x.put(0, 1, 2, 9, 9, 0, 0),
            x -> x.change(0, 0, -5), x -> x.strike(2), x -> x.price(1, 55), x -> x.tell(3, 7), x -> x.tell(0, 0)};
        for (int i = 0; i < calls.length; i++) {
            LawFinder x = busy();
            String before = stateOf(x);
            due("call " + i, calls[i].on(x), true);
            due("it does something", stateOf(x).equals(before), false);
            due("undo() of call " + i, x.undo(), true);
            due("all is as ahead of it", stateOf(x).equals(before), true);
        }
        LawFinder x = three();
        String before = stateOf(x);
        due("swap(0, 1)", x.swap(0, 1), true);
        due("undo() of swap", x.undo(), true);
        due("all is as ahead of it", stateOf(x).equals(before), true);
    }

    private static void undoBringsBackAllOfATable() {
        LawFinder x = full(s -> s);
        for (int i = 0; i < 4; i++) {
            x.tell(i, 4 - i);
        }
        x.price(15, 99);
        String before = stateOf(x);
        due("table(4)", x.table(4), true);
        due("undo()", x.undo(), true);
        due("all is as ahead of it", stateOf(x).equals(before), true);
    }

    private static void sixAreKept() {
        for (int done = 0; done <= 20; done++) {
            LawFinder x = new LawFinder();
            for (int i = 0; i < done; i++) {
                x.put(0, 0, 1, i, 0, 0, 0);
            }
            int back = Math.min(done, 6);
            for (int i = 0; i < back; i++) {
                due("done " + done + ", undo " + i, x.undo(), true);
                due("at(0, 0)", x.at(0, 0), done - i - 2 >= 0 ? done - i - 2 : NO_PLACE);
            }
            due("done " + done + ", none is left", x.undo(), false);
            due("nothing is done", x.at(0, 0), done > 6 ? done - 7 : NO_PLACE);
            due("none is left, asked again", x.undo(), false);
        }
    }

    private static void takenBackOnce() {
        LawFinder x = new LawFinder();
        for (int i = 0; i < 8; i++) {
            x.put(0, 0, 1, i, 0, 0, 0);
        }
        due("three undos", x.undo() && x.undo() && x.undo(), true);
        due("at(0, 0)", x.at(0, 0), 4);
        due("a new call", x.put(0, 0, 1, 50, 0, 0, 0), true);
        due("it is taken back first", x.undo(), true);
        due("at(0, 0)", x.at(0, 0), 4);
        due("then those ahead", x.undo() && x.undo() && x.undo(), true);
        due("at(0, 0)", x.at(0, 0), 1);
        due("none is left", x.undo(), false);
        due("around the ring again", x.put(0, 0, 1, 60, 0, 0, 0), true);
        due("undo()", x.undo(), true);
        due("at(0, 0)", x.at(0, 0), 1);
        due("undo() is not taken back by undo()", x.undo(), false);
    }

    private static void onlyDoneCallsAreTakenBack() {
        LawFinder x = three();
        x.undo();
        x.undo();
        x.undo();
        due("only table() is left", x.undo(), true);
        due("none is left", x.undo(), false);
        x.table(0);
        x.put(16, 0, 0, 0, 0, 0, 0);
        x.change(0, 0, 1);
        x.strike(0);
        x.price(0, 1);
        x.swap(0, 4);
        x.tell(4, 0);
        due("refused calls are none", x.undo(), false);
        x.at(0, 0);
        x.laws(0, 4);
        x.mend(0);
        x.keys();
        due("questions are none", x.undo(), false);
        x.swap(2, 2);
        due("a call that changes nothing was done", x.undo(), true);
        due("once", x.undo(), false);
    }

    private static void undoOfNone() {
        LawFinder x = new LawFinder();
        String before = stateOf(x);
        due("a new object", x.undo(), false);
        due("nothing is done", stateOf(x).equals(before), true);
        due("put()", x.put(0, 0, 0, 0, 0, 0, 0), true);
        due("undo()", x.undo(), true);
        due("none is left", x.undo(), false);
        due("as it was at first", stateOf(x).equals(before), true);
    }

    private static void countsFollowUndo() {
        LawFinder x = two(5, 5);
        x.tell(0, 1);
        due("broken(1)", x.broken(1), 1);
        due("mend(0)", x.mend(0), 1);
        due("keys()", x.keys(), 0);
        x.change(15, 0, 6);
        due("broken(1)", x.broken(1), 0);
        due("mend(0)", x.mend(0), 0);
        due("keys()", x.keys(), 1);
        x.undo();
        due("broken(1)", x.broken(1), 1);
        due("mend(0)", x.mend(0), 1);
        due("pairs(1)", x.pairs(1), 2);
        due("keys()", x.keys(), 0);
        due("laws(0, 1)", x.laws(0, 1), 1);
    }

    private static void terms() {
        edge("what it is", "An object is used for at most 512 calls", LawFinderEdges::callsUpToTheLast);
        edge("what it is", "what holds of all pairs of them is kept counted", LawFinderEdges::countsFollowUndo);
        edge("term 1", "A TABLE has C COLUMNS (1 .. 4, at first 4)", LawFinderEdges::columnsOneToFour);
        edge("term 1", "SLOTS 0 .. 15 for rows, at first without one", LawFinderEdges::slotsZeroToFifteen);
        edge("term 1", "A ROW is of a KIND: 0 bytes, 1 shorts, 2 ints, 3 longs, 4 doubles", LawFinderEdges::kindsOfRows);
        edge("term 1", "it has n numbers (0 .. 4) for the COLUMNS 0 .. n - 1", LawFinderEdges::rowsOfEachLength);
        edge("term 1", "(those behind C do not count)", LawFinderEdges::numbersBehindTheColumns);
        edge("term 1", "of COLUMNS behind it has nothing", LawFinderEdges::nothingBehindTheRow);
        edge("term 1", "nor where a double is no number", LawFinderEdges::nothingWhereNoNumber);
        edge("term 1", "A ROW has a PRICE (1 at first)", LawFinderEdges::priceAtFirst);
        edge("term 1", "1 ALIKE (both have a number, the same)", LawFinderEdges::alike);
        edge("term 1", "3 LESS (both have; the first one's is less), 4 MORE", LawFinderEdges::lessAndMore);
        edge("term 1", "2 APART (one has nothing, or both)", LawFinderEdges::apart);
        edge("term 1", "UNLIKE is what is not ALIKE", LawFinderEdges::unlike);
        edge("term 2", "for some COLUMNS (one at least)", LawFinderEdges::oneColumnAtLeast);
        edge("term 2", "COLUMN c counts 5 to the c times 0", LawFinderEdges::leastAndGreatestLaw);
        edge("term 2", "between the one and the other, or the other and the one", LawFinderEdges::breaksEitherWay);
        edge("term 2", "it HOLDS if no pair does", LawFinderEdges::holdsWithoutPairs);
        edge("term 2", "it says the same", LawFinderEdges::turnedSaysTheSame);
        edge("term 2", "of both the lesser number is told", LawFinderEdges::lesserNumberIsTold);
        edge("term 2", "(a LAW that is asked may be either)", LawFinderEdges::eitherMayBeAsked);
        edge("term 2", "the first says the same, or LESS or MORE where that says UNLIKE", LawFinderEdges::saidColumnByColumn);
        edge("term 2", "a LAW that at most b pairs break", LawFinderEdges::atMostB);
        edge("term 2", "SAID by no other one of them (than itself and its TURNED one)", LawFinderEdges::leastOnes);
        edge("term 2", "RISES: LESS or MORE of two COLUMNS at least", LawFinderEdges::sorts);
        edge("term 3", "(its own ones always)", LawFinderEdges::ownColumnsAlways);
        edge("term 3", "a LEAST KEY, if no lesser part of it is one", LawFinderEdges::leastKeysOnly);
        edge("term 3", "of the sets of SLOTS with ROWS without which no pair BREAKS one of the told LAWS (0 .. 3)",
                LawFinderEdges::mendForNothing);
        edge("term 3", "without which no pair BREAKS one of the told LAWS", LawFinderEdges::mendOfSeveralParts);
        edge("term 3", "the one of the least sum of PRICES, of several the least number", LawFinderEdges::leastSumThenLeastNumber);
    }

    private static void changes() {
        edge("promise 1", "Four COLUMNS, no ROWS, no told LAWS", LawFinderEdges::newObject);
        edge("promise 2", "A TABLE of c COLUMNS, without ROWS; no LAWS are told: true", LawFinderEdges::tableEmptiesAll);
        edge("promise 2", "false, and nothing is done, if c is not 1 .. 4", LawFinderEdges::tableRefuses);
        edge("promise 3", "each -99 .. 99", LawFinderEdges::numbersFromLeastToGreatest);
        edge("promise 3", "of doubles 100 is no number", LawFinderEdges::noNumberOfDoublesAlone);
        edge("promise 3", "those behind n may be any", LawFinderEdges::thoseBehindMayBeAny);
        edge("promise 3", "in place of one that was there; its PRICE is 1: true", LawFinderEdges::inPlaceOfOne);
        edge("promise 3", "False, and nothing is done: no such SLOT", LawFinderEdges::putRefusesSlots);
        edge("promise 3", "no such SLOT, KIND", LawFinderEdges::putRefusesKinds);
        edge("promise 3", "no such SLOT, KIND, n", LawFinderEdges::putRefusesLengths);
        edge("promise 3", "no such SLOT, KIND, n or number", LawFinderEdges::putRefusesNumbers);
        edge("promise 4", "at COLUMN c becomes v: true", LawFinderEdges::changeToLeastAndGreatest);
        edge("promise 4", "False, and nothing is done: no ROW", LawFinderEdges::changeRefusesWithoutRow);
        edge("promise 4", "no such COLUMN", LawFinderEdges::changeRefusesColumns);
        edge("promise 4", "it ends ahead", LawFinderEdges::changeRefusesBehindTheRow);
        edge("promise 4", "or v can't be", LawFinderEdges::changeRefusesNumbers);
        edge("promise 4", "What was no number can become one, of doubles the other way, too", LawFinderEdges::noNumberComesAndGoes);
        edge("promise 5", "The ROW of SLOT s goes: true", LawFinderEdges::strikeAllOfAFullTable);
        edge("promise 5", "false if there is none", LawFinderEdges::strikeRefuses);
        edge("promise 6", "Its PRICE is v (0 .. 99): true", LawFinderEdges::pricesFromZero);
        edge("promise 6", "false if there is none", LawFinderEdges::priceRefuses);
        edge("promise 6", "or v can't be", LawFinderEdges::priceRefusesValues);
        edge("promise 7", "in all ROWS that have both; true", LawFinderEdges::swapInAllRows);
        edge("promise 7", "False, and nothing is done: one is none", LawFinderEdges::swapRefusesColumns);
        edge("promise 7", "or a ROW ends ahead of one of them", LawFinderEdges::swapRefusesShortRows);
        edge("promise 7", "(a double that is no number changes, too)", LawFinderEdges::swapOfNoNumber);
    }

    private static void questions() {
        edge("promise 8", "1000 if it has nothing there", LawFinderEdges::atNothing);
        edge("promise 8", "1001 if there is no ROW, or no such COLUMN", LawFinderEdges::atNoPlace);
        edge("promise 9", "(NONE without a ROW)", LawFinderEdges::rowOrNone);
        edge("promise 9", "NONE if there is none such, or another what", LawFinderEdges::rowOfNoSlot);
        edge("promise 10", "as a number (COLUMN c counts 5 to the c)", LawFinderEdges::betweenLeastAndGreatest);
        edge("promise 10", "NONE if one has none, or they are the same", LawFinderEdges::betweenNone);
        edge("promise 11", "(each counts twice)", LawFinderEdges::eachPairTwice);
        edge("promise 11", "NONE if it can't be told", LawFinderEdges::cannotBeTold);
        edge("promise 12", "How many unlike such numbers there are", LawFinderEdges::kindsFromNone);
        edge("promise 13", "How many pairs of SLOTS (each once) BREAK a LAW", LawFinderEdges::brokenByAll);
        edge("promise 13", "NONE if it is none", LawFinderEdges::brokenOfNoLaw);
        edge("promise 14", "by the lesser SLOT, then the greater one", LawFinderEdges::breakersInOrder);
        edge("promise 14", "NONE if there is none such, or another what", LawFinderEdges::breakerNone);
        edge("promise 15", "that say something of at most m (1 .. 4) COLUMNS", LawFinderEdges::lawsFromLeastToGreatest);
        edge("promise 15", "NONE if that can't be", LawFinderEdges::lawsThatCannotBe);
        edge("promise 16", "NONE if there is none such", LawFinderEdges::lawNone);
        edge("promise 17", "NONE if it is none", LawFinderEdges::sortNone);
        edge("promise 18", "The lesser number of a LAW and its TURNED one", LawFinderEdges::leastOfEach);
        edge("promise 18", "NONE if it is none", LawFinderEdges::leastNone);
        edge("promise 19", "NONE if one is none", LawFinderEdges::saidNone);
        edge("promise 20", "NONE if it is no set of COLUMNS", LawFinderEdges::settlesNone);
        edge("promise 21", "(The empty set is one, if there is no pair.)", LawFinderEdges::emptySetIsKey);
        edge("promise 22", "NONE if there is none such", LawFinderEdges::keyNone);
    }

    private static void toldLaws() {
        edge("promise 23", "Told LAW i (0 .. 3) is that", LawFinderEdges::tellEach);
        edge("promise 23", "a LAW 0: none: true", LawFinderEdges::tellNone);
        edge("promise 23", "false, and nothing is done, if there is none such", LawFinderEdges::tellRefuses);
        edge("promise 24", "0 without one; NONE if there is none such", LawFinderEdges::toldNone);
        edge("promise 25", "MENDING by the told LAWS", LawFinderEdges::mendOfNothing);
        edge("promise 25", "what 0 the sum of PRICES, 1 the set of SLOTS as a number", LawFinderEdges::mendOfAFullTable);
        edge("promise 25", "2 how many pairs BREAK one of them", LawFinderEdges::pairsThatBreakSeveral);
        edge("promise 25", "NONE for another what", LawFinderEdges::mendNone);
        edge("promise 26", "The TABLE, ROWS, PRICES and told LAWS are as ahead of the latest call", LawFinderEdges::undoOfEach);
        edge("promise 26", "ahead of the latest call of table()", LawFinderEdges::undoBringsBackAllOfATable);
        edge("promise 26", "(the latest 6 are kept)", LawFinderEdges::sixAreKept);
        edge("promise 26", "and not taken back", LawFinderEdges::takenBackOnce);
        edge("promise 26", "that was done", LawFinderEdges::onlyDoneCallsAreTakenBack);
        edge("promise 26", "true; false if there is none", LawFinderEdges::undoOfNone);
    }

    public static void main(String[] args) {
        terms();
        changes();
        questions();
        toldLaws();
        System.out.println(wrong == 0 ? "all " + edges + " boundary sentences hold" : wrong + " answers are not as due");
        if (wrong != 0) {
            System.exit(1);
        }
    }
}
