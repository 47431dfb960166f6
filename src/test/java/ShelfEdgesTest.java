import java.lang.reflect.InvocationTargetException;
import java.lang.reflect.Method;
import java.util.Arrays;
import java.util.Comparator;

/** Promises 1 to 8: for each sentence that names a boundary case a test of its own, each method one. */
public final class ShelfEdgesTest {
    private static final int BYTES = 0;
    private static final int SHORTS = 1;
    private static final int INTS = 2;
    private static final int LONGS = 3;
    private static final int BOOLEANS = 4;
    private static final int[] OUT_OF_SHELVES = {-1, 8, Integer.MIN_VALUE, Integer.MAX_VALUE};
    private static String running = "";
    private static int wrong = 0;

    public static void main(String[] args) throws IllegalAccessException {
        Method[] methods = ShelfEdgesTest.class.getDeclaredMethods();
        Arrays.sort(methods, Comparator.comparing(Method::getName));
        for (Method method : methods) {
            if (method.getName().matches("p\\d\\d_\\w+")) {
                running = method.getName();
                try {
                    method.invoke(null);
                } catch (InvocationTargetException thrown) {
                    wrong++;
                    System.out.println(running + " threw " + thrown.getCause());
                }
            }
        }
        System.out.println(wrong == 0 ? "all answers are as due" : wrong + " answers are not as due");
        if (wrong != 0) {
            System.exit(1);
        }
    }

    private static void due(String call, long got, long want) {
        if (got != want) {
            wrong++;
            System.out.println(running + ": " + call + " answered " + got + ", due is " + want);
        }
    }

    private static NeedsALoser read(String text) {
        NeedsALoser x = new NeedsALoser();
        for (char letter : text.toCharArray()) {
            x.feed(letter);
        }
        if (x.town() < 0) {
            wrong++;
            System.out.println(running + ": not read: " + text);
        }
        return x;
    }

    private static void row(NeedsALoser x, int s, int sort, long... elements) {
        due("row", x.row(s, sort, elements.length), 1);
        for (int i = 0; i < elements.length; i++) {
            due("set " + i, x.set(s, i, elements[i]), 1);
        }
    }

    private static void holdsRow(NeedsALoser x, int s, long... elements) {
        for (int i = 0; i < elements.length; i++) {
            due("element " + i, x.element(s, i), elements[i]);
        }
    }

    /** What is put into a ROW of a SORT, and what it holds then. */
    private static void keeps(int sort, long put, long kept) {
        NeedsALoser x = new NeedsALoser();
        row(x, 0, sort, put);
        due("element of sort " + sort + " with " + put, x.element(0, 0), kept);
    }

    // ---- 1: a new object ----

    static void p01_noPeople() {
        NeedsALoser x = new NeedsALoser();
        due("status 0", x.status(0), 0);
        due("standing", x.standing(0), -1000002);
        due("named", x.named(0), -2);
        due("one", x.one(), 0);
    }

    static void p01_noBargains() {
        NeedsALoser x = new NeedsALoser();
        due("status 1", x.status(1), 0);
        due("good", x.good(0), -2);
        x.one();
        x.one();
        due("bargain", x.bargain(0, 1, 0, 0), 0);
    }

    static void p01_everyShelfHoldsNothing() {
        NeedsALoser x = new NeedsALoser();
        due("status 10", x.status(10), 0);
        for (int s = 0; s < 8; s++) {
            due("holds " + s, x.holds(s), -1);
            due("set " + s, x.set(s, 0, 1), -4);
            due("lives " + s, x.lives(s), -4);
        }
    }

    static void p01_theTapeIsEmpty() {
        NeedsALoser x = new NeedsALoser();
        due("status 8", x.status(8), 0);
        due("wipe", x.wipe(), 0);
        due("town", x.town(), -20);
    }

    static void p01_theLawIsThatAtFirst() {
        NeedsALoser x = new NeedsALoser();
        due("LEAST", x.status(4), 1);
        due("ONCE", x.status(5), 1);
        due("COURT", x.status(6), 5);
        due("FINE", x.status(7), 50);
    }

    static void p01_seedIsOneAndNothingWasYet() {
        NeedsALoser x = new NeedsALoser();
        due("SEED", x.status(9), 1);
        due("WEEKS", x.status(2), 0);
        due("made", x.status(3), 0);
        for (int what = 12; what <= 16; what++) {
            due("status " + what, x.status(what), 0);
        }
        due("back", x.back(), -5);
    }

    static void p01_oneObjectDoesNotTouchAnother() {
        NeedsALoser x = read("one;one;one;deal 0 1 2 3 hurts 2 4;law 5;once 0;court 6;fine 7");
        x.row(0, BYTES, 1);
        x.feed(32);
        x.seed(9);
        x.week();
        x.image();
        x.good(-1);
        NeedsALoser y = new NeedsALoser();
        int[] first = {0, 0, 0, 0, 1, 1, 5, 50, 0, 1, 0, -1, 0, 0, 0, 0, 0};
        for (int what = 0; what < first.length; what++) {
            due("status " + what, y.status(what), first[what]);
        }
        due("holds", y.holds(0), -1);
        due("back", y.back(), -5);
    }

    static void p01_theCall512IsAnsweredAsTheFirst() {
        NeedsALoser x = new NeedsALoser();
        for (int call = 1; call <= 511; call++) {
            due("call " + call, x.one(), call <= 7 ? call - 1 : -6);
        }
        due("call 512", x.status(16), 504);
    }

    // ---- 2: row ----

    static void p02_theLeastAndTheGreatestShelf() {
        NeedsALoser x = new NeedsALoser();
        due("row 0", x.row(0, INTS, 1), 1);
        due("row 7", x.row(7, INTS, 1), 1);
        due("holds 0", x.holds(0), INTS);
        due("holds 7", x.holds(7), INTS);
        for (int s : OUT_OF_SHELVES) {
            due("row " + s, x.row(s, INTS, 1), -2);
        }
        due("status 10", x.status(10), 2);
    }

    static void p02_theLeastAndTheGreatestSort() {
        NeedsALoser x = new NeedsALoser();
        due("bytes", x.row(0, BYTES, 1), 1);
        due("booleans", x.row(1, BOOLEANS, 1), 1);
        int[] none = {-1, 5, Integer.MIN_VALUE, Integer.MAX_VALUE};
        for (int sort : none) {
            due("sort " + sort, x.row(2, sort, 1), -2);
        }
        due("holds", x.holds(2), -1);
    }

    static void p02_theFewestAndTheMostElements() {
        NeedsALoser x = new NeedsALoser();
        due("0 elements", x.row(0, INTS, 0), 1);
        due("40 elements", x.row(1, INTS, 40), 1);
        int[] none = {-1, 41, Integer.MIN_VALUE, Integer.MAX_VALUE};
        for (int n : none) {
            due(n + " elements", x.row(2, INTS, n), -2);
        }
        due("holds", x.holds(2), -1);
    }

    static void p02_aRowOfNoElementsIsSomethingAndHasNone() {
        NeedsALoser x = new NeedsALoser();
        x.row(3, SHORTS, 0);
        due("holds", x.holds(3), SHORTS);
        due("status 10", x.status(10), 1);
        due("set", x.set(3, 0, 1), -2);
        due("element", x.element(3, 0), 0);
    }

    static void p02_theFortiethElementIsTheLast() {
        NeedsALoser x = new NeedsALoser();
        x.row(7, LONGS, 40);
        due("set 39", x.set(7, 39, 77), 1);
        due("element 39", x.element(7, 39), 77);
        due("set 40", x.set(7, 40, 78), -2);
        due("element 40", x.element(7, 40), 0);
    }

    static void p02_elementsAreZeroAtFirst() {
        NeedsALoser x = new NeedsALoser();
        for (int sort = BYTES; sort <= BOOLEANS; sort++) {
            x.row(sort, sort, 40);
            due("the first", x.element(sort, 0), 0);
            due("the last", x.element(sort, 39), 0);
        }
    }

    static void p02_aNewRowTakesThePlaceOfOneThatWasFull() {
        NeedsALoser x = new NeedsALoser();
        x.row(2, LONGS, 40);
        for (int i = 0; i < 40; i++) {
            x.set(2, i, -1);
        }
        x.row(2, LONGS, 40);
        for (int i = 0; i < 40; i++) {
            due("element " + i, x.element(2, i), 0);
        }
        row(x, 2, LONGS, 5, 5, 5);
        x.row(2, LONGS, 2);
        due("set 2", x.set(2, 2, 1), -2);
        due("element 2", x.element(2, 2), 0);
        x.row(2, LONGS, 3);
        holdsRow(x, 2, 0, 0, 0);
    }

    static void p02_aNewRowTakesThePlaceOfARule() {
        NeedsALoser x = new NeedsALoser();
        x.rule(4, 6, 99);
        due("row", x.row(4, BOOLEANS, 1), 1);
        due("holds", x.holds(4), BOOLEANS);
        due("status 10", x.status(10), 1);
        due("lives", x.lives(4), -3);
    }

    static void p02_aRowIsItsShelfsAlone() {
        NeedsALoser x = new NeedsALoser();
        for (int s = 0; s < 8; s++) {
            x.row(s, INTS, 40);
        }
        for (int s = 0; s < 8; s++) {
            x.set(s, 0, 10 + s);
            x.set(s, 39, 20 + s);
        }
        for (int s = 0; s < 8; s++) {
            due("first of " + s, x.element(s, 0), 10 + s);
            due("second of " + s, x.element(s, 1), 0);
            due("last but one of " + s, x.element(s, 38), 0);
            due("last of " + s, x.element(s, 39), 20 + s);
        }
        x.row(3, INTS, 40);
        due("that ahead", x.element(2, 39), 22);
        due("that behind", x.element(4, 0), 14);
    }

    // ---- 3: set ----

    static void p03_theFirstAndTheLastElement() {
        NeedsALoser x = new NeedsALoser();
        x.row(0, INTS, 3);
        due("set 0", x.set(0, 0, 5), 1);
        due("set 2", x.set(0, 2, 6), 1);
        int[] none = {-1, 3, Integer.MIN_VALUE, Integer.MAX_VALUE};
        for (int i : none) {
            due("set " + i, x.set(0, i, 7), -2);
        }
        holdsRow(x, 0, 5, 0, 6, 0);
    }

    static void p03_bytesKeepTheirLowestEightBits() {
        keeps(BYTES, 127, 127);
        keeps(BYTES, 128, -128);
        keeps(BYTES, 255, -1);
        keeps(BYTES, 256, 0);
        keeps(BYTES, 257, 1);
        keeps(BYTES, -128, -128);
        keeps(BYTES, -129, 127);
        keeps(BYTES, Long.MAX_VALUE, -1);
        keeps(BYTES, Long.MIN_VALUE, 0);
    }

    static void p03_shortsKeepTheirLowestSixteenBits() {
        keeps(SHORTS, 32767, 32767);
        keeps(SHORTS, 32768, -32768);
        keeps(SHORTS, 65535, -1);
        keeps(SHORTS, 65536, 0);
        keeps(SHORTS, -32768, -32768);
        keeps(SHORTS, -32769, 32767);
        keeps(SHORTS, 256, 256);
        keeps(SHORTS, Long.MAX_VALUE, -1);
        keeps(SHORTS, Long.MIN_VALUE, 0);
    }

    static void p03_intsKeepTheirLowestThirtyTwoBits() {
        keeps(INTS, Integer.MAX_VALUE, Integer.MAX_VALUE);
        keeps(INTS, Integer.MAX_VALUE + 1L, Integer.MIN_VALUE);
        keeps(INTS, 0xFFFFFFFFL, -1);
        keeps(INTS, 0x100000000L, 0);
        keeps(INTS, 0x100000007L, 7);
        keeps(INTS, Integer.MIN_VALUE, Integer.MIN_VALUE);
        keeps(INTS, Integer.MIN_VALUE - 1L, Integer.MAX_VALUE);
        keeps(INTS, 65536, 65536);
        keeps(INTS, Long.MIN_VALUE, 0);
    }

    static void p03_longsKeepAll() {
        keeps(LONGS, Long.MAX_VALUE, Long.MAX_VALUE);
        keeps(LONGS, Long.MIN_VALUE, Long.MIN_VALUE);
        keeps(LONGS, 0x100000000L, 0x100000000L);
        keeps(LONGS, -1, -1);
    }

    static void p03_booleansKeepWhetherItIsNotZero() {
        keeps(BOOLEANS, 0, 0);
        keeps(BOOLEANS, 1, 1);
        keeps(BOOLEANS, 2, 1);
        keeps(BOOLEANS, -1, 1);
        keeps(BOOLEANS, 256, 1);
        keeps(BOOLEANS, 0x100000000L, 1);
        keeps(BOOLEANS, Long.MIN_VALUE, 1);
        NeedsALoser x = new NeedsALoser();
        row(x, 0, BOOLEANS, 9);
        x.set(0, 0, 0);
        due("not so again", x.element(0, 0), 0);
    }

    // ---- 4: copy ----

    static void p04_noElementsCopied() {
        NeedsALoser x = new NeedsALoser();
        row(x, 0, INTS, 1, 2);
        row(x, 1, INTS, 3, 4);
        due("copy", x.copy(0, 1, 0, 0, 0), 0);
        holdsRow(x, 1, 3, 4);
    }

    static void p04_noElementsAtTheVeryEnd() {
        NeedsALoser x = new NeedsALoser();
        x.row(0, INTS, 2);
        x.row(1, INTS, 3);
        due("at the ends", x.copy(0, 1, 2, 3, 0), 0);
        due("behind the end of p", x.copy(0, 1, 3, 3, 0), -2);
        due("behind the end of q", x.copy(0, 1, 2, 4, 0), -2);
    }

    static void p04_betweenRowsOfNoElements() {
        NeedsALoser x = new NeedsALoser();
        x.row(0, INTS, 0);
        x.row(1, INTS, 0);
        due("none", x.copy(0, 1, 0, 0, 0), 0);
        due("one", x.copy(0, 1, 0, 0, 1), -2);
        due("in itself", x.copy(0, 0, 0, 0, 0), 0);
    }

    static void p04_allFortyCopied() {
        NeedsALoser x = new NeedsALoser();
        x.row(0, LONGS, 40);
        x.row(1, LONGS, 40);
        for (int i = 0; i < 40; i++) {
            x.set(0, i, i - 20);
        }
        due("41", x.copy(0, 1, 0, 0, 41), -2);
        due("40", x.copy(0, 1, 0, 0, 40), 40);
        for (int i = 0; i < 40; i++) {
            due("element " + i, x.element(1, i), i - 20);
            due("it stays " + i, x.element(0, i), i - 20);
        }
    }

    static void p04_upInOneRowAsTheyWere() {
        NeedsALoser x = new NeedsALoser();
        row(x, 0, INTS, 1, 2, 3, 4);
        due("copy", x.copy(0, 0, 0, 1, 3), 3);
        holdsRow(x, 0, 1, 1, 2, 3);
    }

    static void p04_downInOneRowAsTheyWere() {
        NeedsALoser x = new NeedsALoser();
        row(x, 0, INTS, 1, 2, 3, 4);
        due("copy", x.copy(0, 0, 1, 0, 3), 3);
        holdsRow(x, 0, 2, 3, 4, 4);
    }

    static void p04_ontoItself() {
        NeedsALoser x = new NeedsALoser();
        row(x, 0, INTS, 1, 2, 3);
        due("copy", x.copy(0, 0, 0, 0, 3), 3);
        holdsRow(x, 0, 1, 2, 3);
    }

    static void p04_onlyTheirPlacesChange() {
        NeedsALoser x = new NeedsALoser();
        row(x, 0, SHORTS, 1, 2, 3, 4);
        row(x, 1, SHORTS, 5, 6, 7, 8);
        due("copy", x.copy(0, 1, 2, 1, 2), 2);
        holdsRow(x, 1, 5, 3, 4, 8);
        holdsRow(x, 0, 1, 2, 3, 4);
    }

    static void p04_toTheLastPlace() {
        NeedsALoser x = new NeedsALoser();
        row(x, 0, INTS, 1, 2, 3);
        row(x, 1, INTS, 4, 5);
        due("the last", x.copy(0, 1, 2, 1, 1), 1);
        due("one behind the last of p", x.copy(0, 1, 3, 0, 1), -2);
        due("one behind the last of q", x.copy(0, 1, 0, 2, 1), -2);
        due("one too many from p", x.copy(0, 1, 2, 0, 2), -2);
        due("one too many for q", x.copy(0, 1, 0, 1, 2), -2);
        holdsRow(x, 1, 4, 3);
    }

    static void p04_placesAndNumbersBelowZero() {
        NeedsALoser x = new NeedsALoser();
        row(x, 0, INTS, 1, 2, 3);
        row(x, 1, INTS, 4, 5, 6);
        due("i", x.copy(0, 1, -1, 0, 1), -2);
        due("j", x.copy(0, 1, 0, -1, 1), -2);
        due("n", x.copy(0, 1, 0, 0, -1), -2);
        due("n from within", x.copy(0, 1, 2, 2, -1), -2);
        due("far", x.copy(0, 1, Integer.MIN_VALUE, Integer.MIN_VALUE, Integer.MIN_VALUE), -2);
        holdsRow(x, 1, 4, 5, 6);
    }

    static void p04_sumsThatWouldWrapAround() {
        NeedsALoser x = new NeedsALoser();
        row(x, 0, INTS, 1, 2, 3);
        row(x, 1, INTS, 4, 5, 6);
        due("i", x.copy(0, 1, Integer.MAX_VALUE, 0, 1), -2);
        due("j", x.copy(0, 1, 0, Integer.MAX_VALUE, 1), -2);
        due("n", x.copy(0, 1, 1, 0, Integer.MAX_VALUE), -2);
        due("n for j", x.copy(0, 1, 0, 1, Integer.MAX_VALUE), -2);
        due("all", x.copy(0, 1, Integer.MAX_VALUE, Integer.MAX_VALUE, Integer.MAX_VALUE), -2);
        due("n below 0", x.copy(0, 1, Integer.MAX_VALUE, 0, Integer.MIN_VALUE), -2);
        holdsRow(x, 1, 4, 5, 6);
    }

    static void p04_shelvesThatAreNone() {
        NeedsALoser x = new NeedsALoser();
        x.row(0, INTS, 1);
        x.row(7, INTS, 1);
        due("0 and 7", x.copy(0, 7, 0, 0, 1), 1);
        due("7 and 0", x.copy(7, 0, 0, 0, 1), 1);
        for (int s : OUT_OF_SHELVES) {
            due("p " + s, x.copy(s, 0, 0, 0, 1), -2);
            due("q " + s, x.copy(0, s, 0, 0, 1), -2);
        }
    }

    static void p04_rowsOfTwoSortsAreOther() {
        NeedsALoser x = new NeedsALoser();
        for (int sort = BYTES; sort <= BOOLEANS; sort++) {
            x.row(sort, sort, 1);
        }
        for (int p = BYTES; p <= BOOLEANS; p++) {
            for (int q = BYTES; q <= BOOLEANS; q++) {
                due("of " + p + " and " + q, x.copy(p, q, 0, 0, 1), p == q ? 1 : -3);
            }
        }
    }

    static void p04_aRowAndNothingIsNotOtherWhateverItsSort() {
        NeedsALoser x = new NeedsALoser();
        for (int sort = BYTES; sort <= BOOLEANS; sort++) {
            x.row(0, sort, 1);
            due("to nothing", x.copy(0, 1, 0, 0, 1), -4);
            due("from nothing", x.copy(1, 0, 0, 0, 1), -4);
        }
        due("both nothing", x.copy(1, 2, 0, 0, 0), -4);
    }

    // ---- 5: element ----

    static void p05_noSuchElementIsZeroAndNotRefused() {
        NeedsALoser x = new NeedsALoser();
        row(x, 0, INTS, 4, 5);
        due("the last", x.element(0, 1), 5);
        int[] none = {-1, 2, 39, 40, Integer.MIN_VALUE, Integer.MAX_VALUE};
        for (int i : none) {
            due("element " + i, x.element(0, i), 0);
        }
        due("status 12", x.status(12), 0);
    }

    static void p05_noRowIsZeroAndNotRefused() {
        NeedsALoser x = new NeedsALoser();
        row(x, 2, INTS, 4, 5);
        x.rule(2, 1, 9);
        due("of a rule", x.element(2, 0), 0);
        due("of nothing", x.element(3, 0), 0);
        for (int s : OUT_OF_SHELVES) {
            due("of shelf " + s, x.element(s, 0), 0);
        }
        for (int what = 12; what <= 16; what++) {
            due("status " + what, x.status(what), 0);
        }
    }

    static void p05_longsAreToldWhole() {
        NeedsALoser x = new NeedsALoser();
        row(x, 0, LONGS, Long.MIN_VALUE, Long.MAX_VALUE);
        due("the least", x.element(0, 0), Long.MIN_VALUE);
        due("the greatest", x.element(0, 1), Long.MAX_VALUE);
    }

    // ---- 6: holds ----

    static void p06_everySortAndEveryKind() {
        NeedsALoser x = new NeedsALoser();
        for (int sort = BYTES; sort <= BOOLEANS; sort++) {
            x.row(0, sort, 0);
            due("of a row", x.holds(0), sort);
        }
        for (int kind = 1; kind <= 6; kind++) {
            x.rule(0, kind, 0);
            due("of a rule", x.holds(0), 10 + kind);
        }
    }

    static void p06_noShelfIsNoneAndNotRefused() {
        NeedsALoser x = new NeedsALoser();
        for (int s : OUT_OF_SHELVES) {
            due("holds " + s, x.holds(s), -1);
        }
        due("nothing", x.holds(7), -1);
        due("status 12", x.status(12), 0);
        due("status 14", x.status(14), 0);
    }

    // ---- 7: rule ----

    static void p07_theLeastAndTheGreatestShelf() {
        NeedsALoser x = new NeedsALoser();
        due("rule 0", x.rule(0, 1, 0), 1);
        due("rule 7", x.rule(7, 1, 0), 1);
        for (int s : OUT_OF_SHELVES) {
            due("rule " + s, x.rule(s, 1, 0), -2);
        }
        due("status 10", x.status(10), 2);
    }

    static void p07_theLeastAndTheGreatestKind() {
        NeedsALoser x = new NeedsALoser();
        due("1", x.rule(0, 1, 0), 1);
        due("6", x.rule(1, 6, 0), 1);
        int[] none = {0, 7, -1, 10, Integer.MIN_VALUE, Integer.MAX_VALUE};
        for (int kind : none) {
            due("kind " + kind, x.rule(2, kind, 0), -2);
        }
        due("holds", x.holds(2), -1);
    }

    static void p07_theLeastAndTheGreatestNumber() {
        NeedsALoser x = new NeedsALoser();
        due("0", x.rule(0, 1, 0), 1);
        due("99", x.rule(1, 1, 99), 1);
        int[] none = {-1, 100, Integer.MIN_VALUE, Integer.MAX_VALUE};
        for (int a : none) {
            due("a " + a, x.rule(2, 1, a), -2);
        }
        due("says 0", x.says(0, 0), 0);
        due("says 99", x.says(1, 0), 99);
        due("holds", x.holds(2), -1);
    }

    static void p07_aNewRuleTakesThePlaceOfWhatWas() {
        NeedsALoser x = new NeedsALoser();
        row(x, 0, INTS, 1, 2, 3);
        due("of a row", x.rule(0, 2, 5), 1);
        due("holds", x.holds(0), 12);
        due("set", x.set(0, 0, 1), -3);
        due("of a rule", x.rule(0, 4, 6), 1);
        due("holds", x.holds(0), 14);
        due("its a", x.says(0, 0), 6);
        due("status 10", x.status(10), 1);
        x.row(0, INTS, 3);
        holdsRow(x, 0, 0, 0, 0);
    }

    // ---- 8: says ----

    static void p08_theLeastAndTheGreatestKind() {
        NeedsALoser x = read("one;one;one;deal 0 1 1 1 hurts 2 1");
        x.rule(0, 6, 33);
        due("0", x.says(0, 0), 33);
        due("6", x.says(0, 6), 2);
        int[] none = {-1, 7, 10, 16, Integer.MIN_VALUE, Integer.MAX_VALUE};
        for (int kind : none) {
            due("kind " + kind, x.says(0, kind), -2);
        }
    }

    static void p08_shelvesThatAreNone() {
        NeedsALoser x = new NeedsALoser();
        x.rule(0, 1, 11);
        x.rule(7, 1, 17);
        due("0", x.says(0, 0), 11);
        due("7", x.says(7, 0), 17);
        for (int s : OUT_OF_SHELVES) {
            due("says of " + s, x.says(s, 0), -2);
        }
    }

    static void p08_underMildAreSwornRichAndCheapAndNoOther() {
        NeedsALoser x = read("one;one;one;deal 0 1 9 9 hurts 2 1");
        int[] asMild = {2, 2, 2, -3, 2, -3};
        for (int kind = 1; kind <= 6; kind++) {
            x.rule(0, kind, 2);
            due(kind + " as 1", x.says(0, 1), asMild[kind - 1]);
        }
    }

    static void p08_noKindIsTakenForOneThatIsNotAboveIt() {
        NeedsALoser x = read("one;one;one;deal 0 1 9 9 hurts 2 1");
        for (int kind = 1; kind <= 6; kind++) {
            x.rule(0, kind, 2);
            for (int taken = 2; taken <= 6; taken++) {
                due(kind + " as " + taken, x.says(0, taken), taken == kind ? 2 : -3);
            }
        }
    }

    static void p08_everyKindTakenForARuleSaysItsNumber() {
        NeedsALoser x = read("one;one;one;deal 0 1 9 9 hurts 2 1");
        for (int kind = 1; kind <= 6; kind++) {
            x.rule(0, kind, 40 + kind);
            due(kind + " as 0", x.says(0, 0), 40 + kind);
        }
    }

    static void p08_itSaysByItsOwnKindWhateverItIsTakenFor() {
        // 2 loses the least, then 3; 4 is sworn; nobody is cheap enough for 18 and more.
        NeedsALoser x = read("one;one;one;one;one;deal 0 1 9 9 hurts 2 1 hurts 3 2 hurts 4 3");
        x.rule(0, 2, 4);
        due("sworn as mild", x.says(0, 1), 4);
        x.rule(1, 5, 18);
        due("cheap as mild", x.says(1, 1), -1);
        x.rule(1, 5, 17);
        due("cheap as mild, just", x.says(1, 1), 2);
        // 3 becomes the richest: a PARTY of BARGAIN 1, which 2 loses by.
        x.bargain(3, 0, 9, 0);
        x.hurts(1, 2, 1);
        row(x, 2, INTS, -1, 2);
        due("makes", x.makes(2), 1);
        x.rule(3, 3, 0);
        due("rich as mild", x.says(3, 1), 3);
    }

    static void p08_withoutBargainsOnlyItsNumberIsSaid() {
        NeedsALoser x = new NeedsALoser();
        for (int kind = 1; kind <= 6; kind++) {
            x.rule(0, kind, 7);
            due(kind + " as itself", x.says(0, kind), -5);
            due(kind + " as a rule", x.says(0, 0), 7);
        }
        due("status 15", x.status(15), 6);
    }

    static void p08_nobodyWhomItCouldNameIsNoneAndNotRefused() {
        NeedsALoser x = read("one;one;deal 0 1 9 9");
        for (int kind = 1; kind <= 6; kind++) {
            x.rule(0, kind, 0);
            due(kind + " as itself", x.says(0, kind), -1);
        }
        for (int what = 12; what <= 16; what++) {
            due("status " + what, x.status(what), 0);
        }
    }

    static void p08_numberZeroIsNobodyNamedYetEither() {
        NeedsALoser x = read("one;one;one;one;deal 2 3 1 1 hurts 0 1");
        for (int kind = 1; kind <= 6; kind++) {
            x.rule(0, kind, 0);
            due(kind + " as itself", x.says(0, kind), 0);
        }
    }

    static void p08_itIsBargainZeroThatIsAskedForAndNobodyNamedYet() {
        NeedsALoser x = read("one;one;one;one;deal 0 1 1 1 hurts 3 1;deal 0 1 1 1 hurts 2 1");
        x.rule(0, 1, 0);
        due("says", x.says(0, 1), 3);
        x.lives(0);
        due("after a week", x.says(0, 1), 3);
    }
}
