/** For each promise of the document: ordinary inputs, the edges it names, wrong inputs. */
public final class LawFinderPromises {
    private static final int BIG = Integer.MAX_VALUE;
    private static final int SMALL = Integer.MIN_VALUE;
    private static int wrong = 0;

    private static void due(int promise, String what, int got, int want) {
        if (got != want) {
            wrong++;
            System.out.println("promise " + promise + ": " + what + " answered " + got + ", due is " + want);
        }
    }

    private static void due(int promise, String what, boolean got, boolean want) {
        due(promise, what, got ? 1 : 0, want ? 1 : 0);
    }

    /** Rows (1,5), (1,6), (2,7) of two columns in slots 0, 1, 2. */
    private static LawFinder three() {
        LawFinder x = new LawFinder();
        x.table(2);
        x.put(0, 2, 2, 1, 5, 0, 0);
        x.put(1, 2, 2, 1, 6, 0, 0);
        x.put(2, 2, 2, 2, 7, 0, 0);
        return x;
    }

    /** Rows that have nothing here and there: (-, 3), (7, -), (7, 3) in slots 0, 1, 2. */
    private static LawFinder gaps() {
        LawFinder x = new LawFinder();
        x.table(2);
        x.put(0, 4, 2, 100, 3, 0, 0);
        x.put(1, 0, 1, 7, 0, 0, 0);
        x.put(2, 4, 2, 7, 3, 0, 0);
        return x;
    }

    private static LawFinder full() {
        LawFinder x = new LawFinder();
        x.table(1);
        for (int s = 0; s < 16; s++) {
            x.put(s, s % 5, 1, s, 0, 0, 0);
        }
        return x;
    }

    private static void newObject() {
        LawFinder x = new LawFinder();
        due(1, "four columns: settles(15)", x.settles(15), 15);
        due(1, "four columns: broken(624)", x.broken(624), 0);
        due(1, "four columns: broken(625)", x.broken(625), -1);
        for (int s = 0; s < 16; s++) {
            due(1, "row(s, 0)", x.row(s, 0), 0);
        }
        for (int i = 0; i < 4; i++) {
            due(1, "told(i)", x.told(i), 0);
        }
        due(1, "undo()", x.undo(), false);
        due(1, "kinds()", x.kinds(), 0);
        LawFinder y = new LawFinder();
        y.put(0, 0, 0, 0, 0, 0, 0);
        due(1, "an object has its own rows", x.row(0, 0), 0);
    }

    private static void table() {
        LawFinder x = three();
        x.tell(0, 1);
        for (int c : new int[] {0, 5, -1, BIG, SMALL}) {
            due(2, "table of a wrong c", x.table(c), false);
        }
        due(2, "nothing was done: row(0, 0)", x.row(0, 0), 1);
        due(2, "nothing was done: told(0)", x.told(0), 1);
        for (int c = 1; c <= 4; c++) {
            due(2, "table(c)", x.table(c), true);
            due(2, "its sets", x.settles((1 << c) - 1), (1 << c) - 1);
            due(2, "no more sets", x.settles(1 << c), -1);
        }
        due(2, "no rows", x.row(0, 0) + x.row(1, 0) + x.row(2, 0), 0);
        due(2, "no told laws", x.told(0), 0);
    }

    private static void put() {
        LawFinder x = new LawFinder();
        due(3, "least and greatest number", x.put(0, 0, 4, -99, 99, 0, 1), true);
        due(3, "at(0, 0)", x.at(0, 0), -99);
        due(3, "at(0, 1)", x.at(0, 1), 99);
        due(3, "at(0, 3)", x.at(0, 3), 1);
        due(3, "price", x.price(0, 9), true);
        due(3, "in place of one", x.put(0, 1, 1, 5, BIG, SMALL, 100), true);
        due(3, "the price is 1", x.row(0, 3), 1);
        due(3, "the kind is new", x.row(0, 1), 1);
        due(3, "nothing is left of the old row", x.at(0, 1), 1000);
        due(3, "the last slot", x.put(15, 4, 0, 100, 101, 102, 103), true);
        due(3, "it has a row", x.row(15, 0), 1);
        due(3, "doubles without a number", x.put(3, 4, 4, 100, 100, 100, 100), true);
        due(3, "at(3, 3)", x.at(3, 3), 1000);
        due(3, "slot 16", x.put(16, 0, 0, 0, 0, 0, 0), false);
        due(3, "slot -1", x.put(-1, 0, 0, 0, 0, 0, 0), false);
        due(3, "kind 5", x.put(1, 5, 0, 0, 0, 0, 0), false);
        due(3, "kind -1", x.put(1, -1, 0, 0, 0, 0, 0), false);
        due(3, "n 5", x.put(1, 0, 5, 0, 0, 0, 0), false);
        due(3, "n -1", x.put(1, 0, -1, 0, 0, 0, 0), false);
        for (int kind = 0; kind < 4; kind++) {
            due(3, "no number in a kind without", x.put(1, kind, 1, 100, 0, 0, 0), false);
        }
        for (int v : new int[] {-100, 101, BIG, SMALL}) {
            due(3, "wrong a", x.put(1, 4, 1, v, 0, 0, 0), false);
            due(3, "wrong b", x.put(1, 4, 2, 0, v, 0, 0), false);
            due(3, "wrong c", x.put(1, 4, 3, 0, 0, v, 0), false);
            due(3, "wrong d", x.put(1, 4, 4, 0, 0, 0, v), false);
        }
        due(3, "nothing was done", x.row(1, 0), 0);
        x.table(2);
        due(3, "more numbers than columns", x.put(0, 0, 4, 1, 2, 3, 4), true);
        due(3, "those behind do not count", x.at(0, 2), 1001);
        due(3, "they are tested as all n are", x.put(1, 0, 3, 1, 2, 100, 0), false);
        x.put(1, 0, 4, 1, 2, 9, 9);
        due(3, "those behind are not between", x.between(0, 1), 6);
    }

    private static void change() {
        LawFinder x = gaps();
        due(4, "change(2, 0, -99)", x.change(2, 0, -99), true);
        due(4, "at(2, 0)", x.at(2, 0), -99);
        due(4, "at(2, 1) stays", x.at(2, 1), 3);
        due(4, "no number becomes one", x.change(0, 0, 7), true);
        due(4, "at(0, 0)", x.at(0, 0), 7);
        due(4, "a number becomes none", x.change(0, 0, 100), true);
        due(4, "at(0, 0)", x.at(0, 0), 1000);
        due(4, "not in bytes", x.change(1, 0, 100), false);
        due(4, "it ends ahead", x.change(1, 1, 5), false);
        due(4, "no row", x.change(3, 0, 5), false);
        due(4, "no slot 16", x.change(16, 0, 5), false);
        due(4, "no slot -1", x.change(-1, 0, 5), false);
        due(4, "no column 2", x.change(2, 2, 5), false);
        due(4, "no column -1", x.change(2, -1, 5), false);
        for (int v : new int[] {-100, 101, BIG, SMALL}) {
            due(4, "a v that can't be", x.change(2, 0, v), false);
        }
        due(4, "nothing was done", x.at(2, 0), -99);
        due(4, "the price stays", x.price(2, 8) && x.change(2, 1, 1) && x.row(2, 3) == 8, true);
        x.put(4, 0, 4, 1, 2, 3, 4);
        due(4, "behind the table's columns", x.change(4, 2, 5), false);
    }

    private static void strike() {
        LawFinder x = three();
        due(5, "strike(1)", x.strike(1), true);
        due(5, "the row is gone", x.row(1, 0), 0);
        due(5, "it is in no pair", x.kinds(), 2);
        due(5, "the others stay", x.row(0, 0) + x.row(2, 0), 2);
        due(5, "strike(1) again", x.strike(1), false);
        due(5, "strike(16)", x.strike(16), false);
        due(5, "strike(-1)", x.strike(-1), false);
        LawFinder y = full();
        due(5, "strike(15)", y.strike(15), true);
        due(5, "15 rows are left", y.broken(3), 105);
    }

    private static void price() {
        LawFinder x = three();
        due(6, "price(0, 99)", x.price(0, 99), true);
        due(6, "row(0, 3)", x.row(0, 3), 99);
        due(6, "row(1, 3)", x.row(1, 3), 1);
        due(6, "price(0, 0)", x.price(0, 0), true);
        due(6, "row(0, 3)", x.row(0, 3), 0);
        due(6, "price(0, 100)", x.price(0, 100), false);
        due(6, "price(0, -1)", x.price(0, -1), false);
        due(6, "no row", x.price(3, 1), false);
        due(6, "slot 16", x.price(16, 1), false);
        due(6, "slot -1", x.price(-1, 1), false);
        due(6, "nothing was done", x.row(0, 3), 0);
    }

    private static void swap() {
        LawFinder x = new LawFinder();
        due(7, "without rows", x.swap(0, 3), true);
        x.table(3);
        x.put(0, 4, 3, 1, 100, 3, 0);
        x.put(15, 2, 4, 4, 5, 6, 7);
        x.tell(0, 3);
        due(7, "swap(0, 1)", x.swap(0, 1), true);
        due(7, "what was nothing changes, too", x.at(0, 0), 1000);
        due(7, "at(0, 1)", x.at(0, 1), 1);
        due(7, "at(15, 0)", x.at(15, 0), 5);
        due(7, "at(15, 1)", x.at(15, 1), 4);
        due(7, "at(15, 2)", x.at(15, 2), 6);
        due(7, "told laws stay", x.told(0), 3);
        due(7, "a column with itself", x.swap(2, 2), true);
        due(7, "no column 3", x.swap(0, 3), false);
        due(7, "no column 3", x.swap(3, 0), false);
        due(7, "no column -1", x.swap(-1, 0), false);
        due(7, "no column -1", x.swap(0, -1), false);
        x.put(5, 0, 2, 8, 9, 0, 0);
        due(7, "a row ends ahead", x.swap(0, 2), false);
        due(7, "a row ends ahead", x.swap(2, 0), false);
        due(7, "a row ends ahead of both", x.swap(2, 2), false);
        due(7, "nothing was done", x.at(15, 0), 5);
        due(7, "it has both", x.swap(1, 0), true);
        due(7, "at(5, 0)", x.at(5, 0), 9);
        x.strike(5);
        due(7, "a row that went does not count", x.swap(0, 2), true);
    }

    private static void at() {
        LawFinder x = gaps();
        due(8, "at(0, 1)", x.at(0, 1), 3);
        due(8, "a double that is no number", x.at(0, 0), 1000);
        due(8, "behind the row's end", x.at(1, 1), 1000);
        due(8, "no row", x.at(3, 0), 1001);
        due(8, "slot 16", x.at(16, 0), 1001);
        due(8, "slot -1", x.at(-1, 0), 1001);
        due(8, "column 2", x.at(0, 2), 1001);
        due(8, "column -1", x.at(0, -1), 1001);
        x.put(3, 0, 4, 1, 2, 3, 4);
        due(8, "a number behind the columns", x.at(3, 2), 1001);
        due(8, "great arguments", x.at(BIG, SMALL), 1001);
    }

    private static void row() {
        LawFinder x = gaps();
        due(9, "row(0, 0)", x.row(0, 0), 1);
        due(9, "row(3, 0)", x.row(3, 0), 0);
        due(9, "row(0, 1)", x.row(0, 1), 4);
        due(9, "row(1, 1)", x.row(1, 1), 0);
        due(9, "row(0, 2)", x.row(0, 2), 2);
        due(9, "row(1, 2)", x.row(1, 2), 1);
        due(9, "row(0, 3)", x.row(0, 3), 1);
        for (int what = 1; what < 4; what++) {
            due(9, "without a row", x.row(3, what), -1);
        }
        due(9, "what 4", x.row(0, 4), -1);
        due(9, "what -1", x.row(0, -1), -1);
        due(9, "slot 16", x.row(16, 0), -1);
        due(9, "slot -1", x.row(-1, 0), -1);
        x.put(3, 1, 4, 1, 2, 3, 4);
        due(9, "it has n numbers", x.row(3, 2), 4);
    }

    private static void between() {
        LawFinder x = three();
        due(10, "alike, less", x.between(0, 1), 16);
        due(10, "alike, more", x.between(1, 0), 21);
        due(10, "less, less", x.between(0, 2), 18);
        due(10, "more, more", x.between(2, 0), 24);
        due(10, "the same slot", x.between(0, 0), -1);
        due(10, "no second row", x.between(0, 3), -1);
        due(10, "no first row", x.between(3, 0), -1);
        due(10, "slot 16", x.between(0, 16), -1);
        due(10, "slot -1", x.between(-1, 0), -1);
        LawFinder y = gaps();
        due(10, "one has nothing", y.between(0, 2), 7);
        due(10, "both ways apart", y.between(2, 0), 7);
        LawFinder z = new LawFinder();
        z.put(0, 0, 4, 1, 2, 3, 4);
        z.put(15, 4, 4, 1, 1, 100, 5);
        due(10, "kinds do not matter, four columns", z.between(0, 15), 1 + 20 + 50 + 375);
        z.put(1, 4, 0, 0, 0, 0, 0);
        z.put(2, 3, 0, 0, 0, 0, 0);
        due(10, "both have nothing", z.between(1, 2), 2 + 10 + 50 + 250);
    }

    private static void pairs() {
        LawFinder x = three();
        due(11, "pairs(18)", x.pairs(18), 2);
        due(11, "pairs(24)", x.pairs(24), 2);
        due(11, "pairs(16)", x.pairs(16), 1);
        due(11, "pairs(6)", x.pairs(6), 0);
        for (int number : new int[] {0, 5, 3, 25, 31, -1, -18, BIG, SMALL}) {
            due(11, "a number that can't be told", x.pairs(number), -1);
        }
        due(11, "each counts twice", gaps().pairs(12), 2);
        x.put(3, 0, 2, 1, 5, 0, 0);
        due(11, "after a new row", x.pairs(6), 2);
        x.change(3, 1, 6);
        due(11, "after a change", x.pairs(16), 2);
        x.undo();
        due(11, "after undo", x.pairs(16), 2);
        due(11, "after undo", x.pairs(6), 2);
        due(11, "four columns", new LawFinder().pairs(156), 0);
        due(11, "a column is left out", new LawFinder().pairs(155), -1);
    }

    private static void kinds() {
        due(12, "three()", three().kinds(), 4);
        due(12, "gaps()", gaps().kinds(), 3);
        due(12, "no rows", new LawFinder().kinds(), 0);
        due(12, "full()", full().kinds(), 2);
        LawFinder x = new LawFinder();
        x.put(7, 0, 4, 1, 1, 1, 1);
        due(12, "one row", x.kinds(), 0);
        x.put(8, 0, 4, 1, 1, 1, 1);
        due(12, "two alike", x.kinds(), 1);
    }

    private static void broken() {
        LawFinder x = three();
        due(13, "alike", x.broken(1), 1);
        due(13, "unlike", x.broken(2), 2);
        due(13, "less", x.broken(3), 2);
        due(13, "more", x.broken(4), 2);
        due(13, "alike, unlike", x.broken(11), 1);
        due(13, "less, less", x.broken(18), 2);
        due(13, "less, more", x.broken(23), 0);
        due(13, "unlike, alike", x.broken(7), 0);
        for (int law : new int[] {0, 25, -1, BIG, SMALL}) {
            due(13, "no law", x.broken(law), -1);
        }
        due(13, "unlike is also apart", gaps().broken(12), 1);
        due(13, "apart is not less", gaps().broken(3), 0);
        due(13, "all pairs", full().broken(2), 120);
        due(13, "all pairs", full().broken(4), 120);
        due(13, "one column", full().broken(5), -1);
    }

    private static void breaker() {
        LawFinder x = three();
        due(14, "the lesser", x.breaker(2, 0, 0), 0);
        due(14, "the greater", x.breaker(2, 0, 1), 2);
        due(14, "the lesser", x.breaker(2, 1, 0), 1);
        due(14, "the greater", x.breaker(2, 1, 1), 2);
        due(14, "by the turned one", x.breaker(4, 0, 1), 2);
        due(14, "no third", x.breaker(2, 2, 0), -1);
        due(14, "k -1", x.breaker(2, -1, 0), -1);
        due(14, "what 2", x.breaker(2, 0, 2), -1);
        due(14, "what -1", x.breaker(2, 0, -1), -1);
        due(14, "law 0", x.breaker(0, 0, 0), -1);
        due(14, "law 25", x.breaker(25, 0, 0), -1);
        due(14, "law -1", x.breaker(-1, 0, 0), -1);
        due(14, "the last pair", full().breaker(2, 119, 0), 14);
        due(14, "the last pair", full().breaker(2, 119, 1), 15);
        due(14, "none behind", full().breaker(2, 120, 0), -1);
        due(14, "great k", full().breaker(2, BIG, 0), -1);
    }

    private static void laws() {
        LawFinder x = three();
        due(15, "laws(0, 4)", x.laws(0, 4), 2);
        due(15, "laws(0, 1)", x.laws(0, 1), 1);
        due(15, "laws(0, 2)", x.laws(0, 2), 2);
        due(15, "laws(1, 4)", x.laws(1, 4), 3);
        due(15, "laws(120, 1)", x.laws(120, 1), 4);
        due(15, "no rows", new LawFinder().laws(0, 4), 8);
        due(15, "one column", full().laws(0, 1), 1);
        due(15, "119 near", full().laws(119, 1), 1);
        due(15, "120 near", full().laws(120, 1), 2);
        due(15, "b -1", x.laws(-1, 1), -1);
        due(15, "b 121", x.laws(121, 1), -1);
        due(15, "m 0", x.laws(0, 0), -1);
        due(15, "m 5", x.laws(0, 5), -1);
        due(15, "great ones", x.laws(BIG, SMALL), -1);
        x.put(3, 0, 2, 1, 5, 0, 0);
        due(15, "a pair breaks the key", x.broken(5), 1);
        due(15, "laws(0, 1) after it", x.laws(0, 1), 0);
    }

    private static void law() {
        LawFinder x = three();
        due(16, "law(0, 4, 0)", x.law(0, 4, 0), 5);
        due(16, "the lesser of both", x.law(0, 4, 1), 19);
        due(16, "law(0, 4, 2)", x.law(0, 4, 2), -1);
        due(16, "law(0, 1, 0)", x.law(0, 1, 0), 5);
        due(16, "law(0, 1, 1)", x.law(0, 1, 1), -1);
        due(16, "law(1, 4, 0)", x.law(1, 4, 0), 1);
        due(16, "law(1, 4, 1)", x.law(1, 4, 1), 5);
        due(16, "law(1, 4, 2)", x.law(1, 4, 2), 19);
        due(16, "i -1", x.law(0, 4, -1), -1);
        due(16, "b -1", x.law(-1, 4, 0), -1);
        due(16, "b 121", x.law(121, 4, 0), -1);
        due(16, "m 0", x.law(0, 0, 0), -1);
        due(16, "m 5", x.law(0, 5, 0), -1);
        due(16, "great i", x.law(0, 4, BIG), -1);
        LawFinder y = new LawFinder();
        int[] all = {1, 2, 5, 10, 25, 50, 125, 250, -1};
        for (int i = 0; i < all.length; i++) {
            due(16, "without rows, the i-th", y.law(0, 4, i), all[i]);
        }
    }

    private static void sort() {
        LawFinder x = new LawFinder();
        due(17, "alike", x.sort(1), 0);
        due(17, "alike in all", x.sort(156), 0);
        due(17, "unlike alone", x.sort(250), 1);
        due(17, "unlike of one, alike", x.sort(2 + 5 + 125), 1);
        due(17, "unlike of two", x.sort(12), 3);
        due(17, "less alone", x.sort(3), 3);
        due(17, "more, alike", x.sort(9), 3);
        due(17, "less, unlike", x.sort(13), 3);
        due(17, "less, less", x.sort(18), 2);
        due(17, "more, less, unlike, alike", x.sort(4 + 15 + 50 + 125), 2);
        for (int law : new int[] {0, -1, 625, BIG, SMALL}) {
            due(17, "no law", x.sort(law), -1);
        }
        x.table(1);
        due(17, "no law of one column", x.sort(5), -1);
    }

    private static void least() {
        LawFinder x = new LawFinder();
        due(18, "more", x.least(4), 3);
        due(18, "less", x.least(3), 3);
        due(18, "less, more", x.least(23), 19);
        due(18, "more, less", x.least(19), 19);
        due(18, "its own turned one", x.least(7), 7);
        due(18, "four columns", x.least(624), 468);
        for (int law : new int[] {0, -1, 625, BIG, SMALL}) {
            due(18, "no law", x.least(law), -1);
        }
        x.table(2);
        due(18, "no law of two columns", x.least(25), -1);
    }

    private static void said() {
        LawFinder x = new LawFinder();
        due(19, "says more", x.said(7, 5), 1);
        due(19, "says less", x.said(5, 7), 0);
        due(19, "less where unlike", x.said(3, 2), 1);
        due(19, "more where unlike", x.said(4, 2), 1);
        due(19, "unlike where less", x.said(2, 3), 0);
        due(19, "alike where unlike", x.said(1, 2), 0);
        due(19, "unlike where alike", x.said(2, 1), 0);
        due(19, "by itself", x.said(19, 19), 1);
        due(19, "by its turned one", x.said(23, 19), 1);
        due(19, "by the turned one of another", x.said(23, 4), 1);
        due(19, "by neither", x.said(18, 19), 0);
        due(19, "other columns", x.said(125, 1), 0);
        due(19, "no law 0", x.said(0, 1), -1);
        due(19, "no by 0", x.said(1, 0), -1);
        due(19, "no law 625", x.said(625, 1), -1);
        due(19, "no by 625", x.said(1, 625), -1);
        due(19, "no law -1", x.said(-1, 1), -1);
        due(19, "no by -1", x.said(1, -1), -1);
    }

    private static void settles() {
        LawFinder x = three();
        due(20, "settles(0)", x.settles(0), 0);
        due(20, "settles(1)", x.settles(1), 1);
        due(20, "settles(2)", x.settles(2), 3);
        due(20, "settles(3)", x.settles(3), 3);
        due(20, "no set 4", x.settles(4), -1);
        due(20, "no set -1", x.settles(-1), -1);
        due(20, "no pair", new LawFinder().settles(0), 15);
        LawFinder y = new LawFinder();
        y.put(0, 0, 3, 1, 2, 3, 0);
        y.put(1, 0, 3, 1, 2, 4, 0);
        due(20, "alike in all rows", y.settles(0), 3);
        due(20, "nothing is unlike nothing", y.settles(1), 3);
        due(20, "own ones always", y.settles(8), 15);
        due(20, "no two alike", y.settles(4), 15);
    }

    private static void keys() {
        due(21, "three()", three().keys(), 1);
        due(21, "no rows: the empty set", new LawFinder().keys(), 1);
        due(21, "full()", full().keys(), 1);
        LawFinder x = new LawFinder();
        x.put(0, 0, 4, 1, 2, 3, 4);
        due(21, "one row: the empty set", x.keys(), 1);
        x.put(1, 0, 4, 1, 2, 3, 4);
        due(21, "two alike: none", x.keys(), 0);
        x.change(1, 0, 2);
        x.change(1, 3, 5);
        due(21, "two of one column", x.keys(), 2);
        x.put(2, 4, 4, 1, 2, 100, 5);
        due(21, "all of two columns", x.keys(), 3);
        x.put(2, 0, 0, 0, 0, 0, 0);
        x.put(3, 0, 0, 0, 0, 0, 0);
        due(21, "nothing is not alike", x.keys(), 2);
    }

    private static void key() {
        LawFinder x = three();
        due(22, "key(0)", x.key(0), 2);
        due(22, "key(1)", x.key(1), -1);
        due(22, "key(-1)", x.key(-1), -1);
        due(22, "great i", x.key(BIG), -1);
        due(22, "the empty set", new LawFinder().key(0), 0);
        due(22, "nothing beside it", new LawFinder().key(1), -1);
        LawFinder y = new LawFinder();
        y.put(0, 0, 4, 1, 1, 1, 1);
        y.put(1, 0, 4, 1, 1, 2, 2);
        y.put(2, 0, 4, 1, 2, 1, 3);
        y.put(3, 0, 4, 1, 2, 2, 4);
        due(22, "by rising numbers", y.key(0), 6);
        due(22, "by rising numbers", y.key(1), 8);
        due(22, "no third", y.key(2), -1);
    }

    private static void tell() {
        LawFinder x = three();
        for (int i = 0; i < 4; i++) {
            due(23, "tell(i, 24 - i)", x.tell(i, 24 - i), true);
        }
        for (int i = 0; i < 4; i++) {
            due(23, "told(i)", x.told(i), 24 - i);
        }
        due(23, "tell(0, 0)", x.tell(0, 0), true);
        due(23, "none", x.told(0), 0);
        due(23, "the others stay", x.told(1), 23);
        due(23, "i 4", x.tell(4, 1), false);
        due(23, "i -1", x.tell(-1, 1), false);
        due(23, "law 25", x.tell(1, 25), false);
        due(23, "law -1", x.tell(1, -1), false);
        due(23, "i 4, none", x.tell(4, 0), false);
        due(23, "nothing was done", x.told(1), 23);
    }

    private static void told() {
        LawFinder x = new LawFinder();
        due(24, "without one", x.told(3), 0);
        x.tell(3, 624);
        due(24, "told(3)", x.told(3), 624);
        due(24, "told(2)", x.told(2), 0);
        due(24, "told(4)", x.told(4), -1);
        due(24, "told(-1)", x.told(-1), -1);
        due(24, "told(BIG)", x.told(BIG), -1);
    }

    private static void mend() {
        LawFinder x = three();
        due(25, "no told laws", x.mend(0) + x.mend(1) + x.mend(2), 0);
        x.tell(0, 1);
        due(25, "sum", x.mend(0), 1);
        due(25, "of several the least number", x.mend(1), 1);
        due(25, "pairs", x.mend(2), 1);
        x.price(0, 5);
        due(25, "the cheaper one", x.mend(1), 2);
        x.tell(3, 10);
        due(25, "sum by two laws", x.mend(0), 2);
        due(25, "set by two laws", x.mend(1), 6);
        due(25, "a pair that breaks both counts once", x.mend(2), 3);
        x.tell(3, 0);
        x.price(1, 0);
        due(25, "for nothing", x.mend(0), 0);
        due(25, "but it goes", x.mend(1), 2);
        due(25, "what 3", x.mend(3), -1);
        due(25, "what -1", x.mend(-1), -1);
        LawFinder y = full();
        y.tell(0, 4);
        due(25, "all but one go", y.mend(0), 15);
        due(25, "the last stays", y.mend(1), 32767);
        due(25, "all pairs", y.mend(2), 120);
        y.price(3, 99);
        due(25, "the dearest stays", y.mend(1), 65535 - 8);
        y.strike(3);
        due(25, "after strike", y.mend(1), 32767 - 8);
        y.undo();
        due(25, "after undo", y.mend(1), 65535 - 8);
        for (int s = 0; s < 16; s++) {
            y.price(s, 99);
        }
        due(25, "the greatest sum", y.mend(0), 15 * 99);
        LawFinder z = new LawFinder();
        z.table(1);
        z.put(4, 0, 1, 1, 0, 0, 0);
        z.put(5, 0, 1, 2, 0, 0, 0);
        z.put(6, 0, 1, 2, 0, 0, 0);
        z.put(7, 0, 1, 2, 0, 0, 0);
        z.tell(1, 2);
        due(25, "the one against many goes", z.mend(1), 16);
        z.price(4, 3);
        due(25, "as dear as the many, the lesser number", z.mend(1), 16);
        z.price(4, 4);
        due(25, "dearer than the many", z.mend(1), 32 + 64 + 128);
    }

    private static void undo() {
        LawFinder x = new LawFinder();
        due(26, "a new object", x.undo(), false);
        x.table(2);
        x.put(0, 0, 2, 1, 2, 0, 0);
        x.change(0, 0, 9);
        x.price(0, 7);
        x.swap(0, 1);
        x.tell(2, 24);
        x.table(9);
        x.put(0, 9, 0, 0, 0, 0, 0);
        x.change(0, 0, 100);
        x.strike(1);
        x.price(0, 100);
        x.swap(0, 2);
        x.tell(4, 1);
        due(26, "of tell, past all that was not done", x.undo(), true);
        due(26, "told(2)", x.told(2), 0);
        due(26, "swap is still done", x.at(0, 1), 9);
        due(26, "of swap", x.undo(), true);
        due(26, "at(0, 0)", x.at(0, 0), 9);
        due(26, "of price", x.undo(), true);
        due(26, "row(0, 3)", x.row(0, 3), 1);
        due(26, "of change", x.undo(), true);
        due(26, "at(0, 0)", x.at(0, 0), 1);
        due(26, "of put", x.undo(), true);
        due(26, "row(0, 0)", x.row(0, 0), 0);
        due(26, "two columns", x.settles(4), -1);
        due(26, "of table", x.undo(), true);
        due(26, "four columns", x.settles(4), 15);
        due(26, "none is left", x.undo(), false);
        sixAreKept();
    }

    private static void sixAreKept() {
        LawFinder x = new LawFinder();
        for (int v = 0; v < 20; v++) {
            x.put(0, 0, 1, v, 0, 0, 0);
        }
        x.strike(0);
        for (int v = 19; v > 13; v--) {
            due(26, "one of the latest six", x.undo(), true);
            due(26, "at(0, 0)", x.at(0, 0), v);
        }
        due(26, "the seventh is not kept", x.undo(), false);
        due(26, "at(0, 0)", x.at(0, 0), 14);
        x.change(0, 0, 14);
        x.tell(0, 1);
        x.table(4);
        due(26, "of table", x.undo(), true);
        due(26, "told(0)", x.told(0), 1);
        due(26, "at(0, 0)", x.at(0, 0), 14);
        due(26, "of tell", x.undo(), true);
        due(26, "of a change to the same", x.undo(), true);
        due(26, "none is left", x.undo(), false);
        x.put(1, 0, 1, 3, 0, 0, 0);
        due(26, "a row in place of one comes back", x.put(1, 3, 2, 4, 5, 0, 0) && x.price(1, 8) && x.undo() && x.undo(), true);
        due(26, "at(1, 0)", x.at(1, 0), 3);
        due(26, "row(1, 1)", x.row(1, 1), 0);
        due(26, "row(1, 2)", x.row(1, 2), 1);
    }

    public static void main(String[] args) {
        newObject();
        table();
        put();
        change();
        strike();
        price();
        swap();
        at();
        row();
        between();
        pairs();
        kinds();
        broken();
        breaker();
        laws();
        law();
        sort();
        least();
        said();
        settles();
        keys();
        key();
        tell();
        told();
        mend();
        undo();
        System.out.println(wrong == 0 ? "all promises are kept" : wrong + " answers are not as due");
        if (wrong != 0) {
            System.exit(1);
        }
    }
}
