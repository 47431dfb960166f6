import java.lang.reflect.InvocationTargetException;
import java.lang.reflect.Method;
import java.util.Arrays;
import java.util.Comparator;

/**
 * Promises 22 to 28, 33, 52, 53 (RULES, WEEKS, DRAWS): for each sentence that names a boundary case a
 * test of its own, each method one.
 */
public final class WeekEdgesTest {
    private static final int NONE = -1;
    private static final int MILD = 1;
    private static final int SWORN = 2;
    private static final int RICH = 3;
    private static final int FOE = 4;
    private static final int CHEAP = 5;
    private static final int ROUND = 6;
    private static final int VALUE = 0;
    private static final int MADE = 1;
    private static final int WHO = 2;
    private static final int V_BAD = -1000002;
    private static final int V_OTHER = -1000003;
    private static final int V_NOTHING = -1000004;
    private static final int V_STUCK = -1000005;
    private static final int MIN = Integer.MIN_VALUE;
    private static final int MAX = Integer.MAX_VALUE;
    private static final int[] OUT_OF_SHELVES = {-1, 8, MIN, MAX};
    private static String running = "";
    private static int wrong = 0;

    public static void main(String[] args) throws IllegalAccessException {
        Method[] methods = WeekEdgesTest.class.getDeclaredMethods();
        Arrays.sort(methods, Comparator.comparing(Method::getName));
        for (Method method : methods) {
            if (method.getName().matches("p\\d\\d_\\w+")) {
                running = method.getName();
                try {
                    method.invoke(null);
                } catch (InvocationTargetException thrown) {
                    wrong++;
                    System.out.println(running + " threw " + thrown.getCause());
                }
            }
        }
        System.out.println(wrong == 0 ? "all answers are as due" : wrong + " answers are not as due");
        if (wrong != 0) {
            System.exit(1);
        }
    }

    private static void due(String call, long got, long want) {
        if (got != want) {
            wrong++;
            System.out.println(running + ": " + call + " answered " + got + ", due is " + want);
        }
    }

    private static NeedsALoser of(int people) {
        NeedsALoser x = new NeedsALoser();
        for (int i = 0; i < people; i++) {
            x.one();
        }
        return x;
    }

    /** A BARGAIN of 0 and 1; the LOSSES are those of 2, 3 and so on. */
    private static int deal(NeedsALoser x, int gain, int... losses) {
        int bargain = x.bargain(0, 1, gain, 0);
        for (int i = 0; i < losses.length; i++) {
            x.hurts(bargain, 2 + i, losses[i]);
        }
        return bargain;
    }

    /** PEOPLE 0 and 1 have one BARGAIN; the LOSSES are those of 2, 3 and so on. */
    private static NeedsALoser oneDeal(int gain, int... losses) {
        NeedsALoser x = of(2 + losses.length);
        deal(x, gain, losses);
        return x;
    }

    private static int named(NeedsALoser x, int kind, int a, int taken) {
        x.rule(0, kind, a);
        return x.name(0, 0, taken);
    }

    private static void tell(NeedsALoser x, int s, int... thirds) {
        x.row(s, 2, thirds.length);
        for (int i = 0; i < thirds.length; i++) {
            x.set(s, i, thirds[i]);
        }
    }

    // ---- 22: name, by every KIND ----

    static void p22_mildTakesTheLeastLossAndOfSeveralTheFirst() {
        due("the least", named(oneDeal(9, 5, 4, 6), MILD, 0, 0), 3);
        due("of several the first", named(oneDeal(9, 5, 4, 4), MILD, 0, 0), 3);
        due("all alike", named(oneDeal(9, 4, 4, 4), MILD, 0, 0), 2);
        due("the last", named(oneDeal(9, 99, 99, 98), MILD, 0, 0), 4);
        due("not who loses too little", named(oneDeal(9, 5, 0, -7), MILD, 0, 0), 2);
    }

    static void p22_mildNeedsNoNumber() {
        NeedsALoser x = oneDeal(0, 5, 4, 6);
        due("99", named(x, MILD, 99, 0), 3);
        due("4", named(x, MILD, 4, 0), 3);
    }

    static void p22_swornTakesItsNumberIfTheyMay() {
        NeedsALoser x = oneDeal(9, 5, 4, 6);
        due("2", named(x, SWORN, 2, 0), 2);
        due("3", named(x, SWORN, 3, 0), 3);
        due("4, the last", named(x, SWORN, 4, 0), 4);
    }

    static void p22_swornElseIsAsMild() {
        NeedsALoser x = oneDeal(9, 5, 4, 6);
        due("one behind the last of the people", named(x, SWORN, 5, 0), 3);
        due("32 and 2", named(x, SWORN, 34, 0), 3);
        due("99", named(x, SWORN, 99, 0), 3);
        due("a party, 0", named(x, SWORN, 0, 0), 3);
        due("a party, 1", named(x, SWORN, 1, 0), 3);
        due("named already", named(x, SWORN, 4, 16), 3);
        x.hurts(0, 4, 0);
        due("not good by them", named(x, SWORN, 4, 0), 3);
    }

    static void p22_swornByANumberWhoseLowestBitsAreThoseOfOneWhoMay() {
        // 1 is mild; 32, 64 and 96 aren't 0, though a bit of that place were.
        NeedsALoser x = of(4);
        x.bargain(2, 3, 9, 9);
        x.hurts(0, 0, 2);
        x.hurts(0, 1, 1);
        due("0", named(x, SWORN, 0, 0), 0);
        int[] none = {31, 32, 63, 64, 96};
        for (int a : none) {
            due("a " + a, named(x, SWORN, a, 0), 1);
        }
    }

    static void p22_theFirstOfThePeopleAndTheLast() {
        NeedsALoser x = of(7);
        x.bargain(2, 3, 99, 9);
        x.hurts(0, 0, 1);
        x.hurts(0, 6, 1);
        for (int kind = MILD; kind <= ROUND; kind++) {
            due("the first, by " + kind, named(x, kind, 0, 0), 0);
            due("the last, by " + kind, named(x, kind, 6, 1), 6);
            due("neither, by " + kind, named(x, kind, 6, 65), NONE);
        }
    }

    static void p22_richTakesTheGreatestStandingAndOfSeveralTheFirst() {
        NeedsALoser x = oneDeal(9, 5, 4, 6);
        due("all alike", named(x, RICH, 0, 0), 2);
        x.bargain(3, 4, 7, 7);
        x.hurts(1, 0, 1);
        tell(x, 7, NONE, 0);
        x.makes(7);
        due("3 and 4 alike", named(x, RICH, 0, 0), 3);
        due("without 3", named(x, RICH, 0, 8), 4);
        due("who MAY alone count", named(x, RICH, 0, 24), 2);
    }

    static void p22_richOfThoseBelowZero() {
        NeedsALoser x = oneDeal(0, 5, 4, 6);
        tell(x, 7, 2);
        x.makes(7);
        tell(x, 7, 3);
        x.makes(7);
        tell(x, 7, 4);
        x.makes(7);
        due("-5, -4, -6", named(x, RICH, 0, 0), 3);
        due("-5, -6", named(x, RICH, 0, 8), 2);
    }

    static void p22_foeTakesTheGreatestLossAndOfSeveralTheFirst() {
        due("the greatest", named(oneDeal(9, 5, 7, 6), FOE, 0, 0), 3);
        due("of several the first", named(oneDeal(9, 5, 7, 7), FOE, 0, 0), 3);
        due("all alike", named(oneDeal(9, 4, 4, 4), FOE, 0, 0), 2);
        due("the last", named(oneDeal(9, 1, 1, 99), FOE, 0, 0), 4);
    }

    static void p22_cheapIsAsMildWhereTheValueIsItsNumber() {
        due("9 less 4", named(oneDeal(9, 5, 4, 6), CHEAP, 5, 0), 3);
        due("one more than the value", named(oneDeal(9, 5, 4, 6), CHEAP, 6, 0), NONE);
        due("of several the first", named(oneDeal(9, 6, 4, 4), CHEAP, 5, 0), 3);
    }

    static void p22_cheapOfZero() {
        due("a value of 0", named(oneDeal(9, 9), CHEAP, 0, 0), 2);
        due("a value of -1", named(oneDeal(8, 9), CHEAP, 0, 0), NONE);
    }

    static void p22_cheapOfNinetyNine() {
        NeedsALoser x = of(3);
        x.bargain(0, 1, 99, 1);
        x.hurts(0, 2, 1);
        due("a value of 99", named(x, CHEAP, 99, 0), 2);
        x.hurts(0, 2, 2);
        due("a value of 98", named(x, CHEAP, 99, 0), NONE);
    }

    static void p22_cheapNamesNobodyWhateverNumbersThereAre() {
        // The third, the BARGAIN and a may be the same number: a VALUE of -1 is too dear.
        for (int t = 0; t < 7; t++) {
            NeedsALoser x = of(7);
            x.bargain((t + 1) % 7, (t + 2) % 7, 0, 0);
            x.hurts(0, t, 1);
            for (int a = 0; a < 8; a++) {
                due("by " + t + ", a " + a, named(x, CHEAP, a, 0), NONE);
            }
            due("mild", named(x, MILD, 0, 0), t);
        }
    }

    static void p22_cheapOnlyOfThoseWhoMay() {
        NeedsALoser x = oneDeal(9, 5, 4, 6);
        due("3 named already", named(x, CHEAP, 4, 8), 2);
        due("and too dear so", named(x, CHEAP, 5, 8), NONE);
    }

    static void p22_roundBeginsWithItsNumber() {
        NeedsALoser x = oneDeal(9, 5, 4, 6);
        due("2 itself", named(x, ROUND, 2, 0), 2);
        due("3 itself", named(x, ROUND, 3, 0), 3);
        due("4, the last, itself", named(x, ROUND, 4, 0), 4);
        due("from a party on", named(x, ROUND, 0, 0), 2);
        due("from the other", named(x, ROUND, 1, 0), 2);
    }

    static void p22_roundAndRound() {
        NeedsALoser x = oneDeal(9, 5, 4, 6);
        due("past the last", named(x, ROUND, 4, 16), 2);
        due("past the last and the first", named(x, ROUND, 4, 20), 3);
        due("all but the one just ahead", named(x, ROUND, 3, 24), 2);
        due("only itself, the last", named(x, ROUND, 4, 12), 4);
    }

    static void p22_roundFromEachToTheFirstAndTheLast() {
        // Only 0 and 6 may.
        NeedsALoser x = of(7);
        x.bargain(2, 3, 9, 9);
        x.hurts(0, 0, 1);
        x.hurts(0, 6, 1);
        for (int a = 0; a < 100; a++) {
            due("a " + a, named(x, ROUND, a, 0), a % 7 == 0 ? 0 : 6);
        }
    }

    static void p22_roundModuloHowManyPeopleThereAre() {
        NeedsALoser x = oneDeal(9, 5, 4, 6);
        due("5 is 0", named(x, ROUND, 5, 0), 2);
        due("8 is 3", named(x, ROUND, 8, 0), 3);
        due("9 is 4", named(x, ROUND, 9, 0), 4);
        due("99 is 4", named(x, ROUND, 99, 0), 4);
        x.one();
        x.hurts(0, 5, 1);
        due("99 of six is 3", named(x, ROUND, 99, 0), 3);
        due("5 of six is 5", named(x, ROUND, 5, 0), 5);
    }

    static void p22_nobodyMayIsNoneAndNotRefused() {
        NeedsALoser x = oneDeal(99, 5, 4, 6);
        for (int kind = MILD; kind <= ROUND; kind++) {
            due("all named, by " + kind, named(x, kind, 2, 31), NONE);
        }
        x.ask(0, 99);
        for (int kind = MILD; kind <= ROUND; kind++) {
            due("good by nobody, by " + kind, named(x, kind, 2, 0), NONE);
        }
        for (int what = 12; what <= 16; what++) {
            due("status " + what, x.status(what), 0);
        }
    }

    static void p22_theSetIsNothingWhereOnceIsZero() {
        NeedsALoser x = oneDeal(99, 5, 4, 6);
        due("once 1", named(x, MILD, 0, 8), 2);
        x.ask(1, 0);
        due("once 0", named(x, MILD, 0, 8), 3);
        due("all named", named(x, SWORN, 4, 31), 4);
        due("all named", named(x, ROUND, 4, 31), 4);
    }

    static void p22_theEmptySetAndThatOfAll() {
        NeedsALoser x = oneDeal(9, 1, 1, 1, 1, 1);
        due("nobody", named(x, MILD, 0, 0), 2);
        due("all", named(x, MILD, 0, 127), NONE);
        due("all but the last", named(x, MILD, 0, 63), 6);
        due("below 0", named(x, MILD, 0, -1), -2);
        due("far below 0", named(x, MILD, 0, MIN), -2);
        due("of nobody there can be", named(x, MILD, 0, 128), -2);
        due("the greatest int", named(x, MILD, 0, MAX), -2);
    }

    static void p22_bargainsAndShelvesThatAreNone() {
        NeedsALoser x = oneDeal(9, 5);
        x.rule(0, MILD, 0);
        x.rule(7, MILD, 0);
        due("shelf 0", x.name(0, 0, 0), 2);
        due("shelf 7", x.name(7, 0, 0), 2);
        int[] none = {-1, 1, MIN, MAX};
        for (int b : none) {
            due("bargain " + b, x.name(0, b, 0), -2);
        }
        for (int s : OUT_OF_SHELVES) {
            due("shelf " + s, x.name(s, 0, 0), -2);
        }
    }

    static void p22_theLastBargain() {
        NeedsALoser x = of(7);
        for (int b = 0; b < 7; b++) {
            int bargain = deal(x, 9);
            x.hurts(bargain, 2 + b % 5, 1);
        }
        x.rule(0, MILD, 0);
        for (int b = 0; b < 7; b++) {
            due("of " + b, x.name(0, b, 0), 2 + b % 5);
        }
    }

    // ---- 23: judge ----

    static void p23_noBargains() {
        NeedsALoser x = of(3);
        x.row(0, 0, 0);
        x.row(1, 0, 40);
        due("a row of none", x.judge(0), NONE);
        due("a row of forty", x.judge(1), NONE);
        due("nobody at all", judgeOfNobody(), NONE);
    }

    private static int judgeOfNobody() {
        NeedsALoser x = new NeedsALoser();
        x.row(0, 3, 0);
        return x.judge(0);
    }

    static void p23_asManyElementsAsBargainsAndOneFewer() {
        NeedsALoser x = of(4);
        deal(x, 9, 1, 1);
        deal(x, 9, 1, 1);
        tell(x, 0, 2, 3);
        due("as many", x.judge(0), NONE);
        tell(x, 0, 2);
        due("one fewer", x.judge(0), -2);
        tell(x, 0);
        due("none", x.judge(0), -2);
        tell(x, 0, 2, 3, 2);
        due("one more counts for nothing", x.judge(0), NONE);
        due("made", x.told(0, MADE), 2);
    }

    static void p23_elementsThatAreNoneOfThePeople() {
        NeedsALoser x = oneDeal(9, 1, 1);
        int[] none = {NONE, -2, 4, 5, 99, MIN, MAX};
        for (int t : none) {
            tell(x, 0, t);
            due("judge of " + t, x.judge(0), NONE);
            due("made of " + t, x.told(0, MADE), 0);
            due("value of " + t, x.told(0, VALUE), 0);
            due("who of " + t, x.told(0, WHO), 0);
        }
        tell(x, 0, 3);
        due("the last of the people", x.told(0, MADE), 1);
    }

    static void p23_longsThatAreNoneOfThePeopleWhateverTheirLowestBits() {
        NeedsALoser x = oneDeal(9, 1, 1);
        long[] none = {(1L << 32) + 2, (1L << 32), -(1L << 32) + 2, Long.MIN_VALUE, Long.MAX_VALUE, Long.MIN_VALUE + 2};
        for (long t : none) {
            x.row(0, 3, 1);
            x.set(0, 0, t);
            due("judge of " + t, x.judge(0), NONE);
            due("made of " + t, x.told(0, MADE), 0);
        }
    }

    static void p23_rowsOfEverySort() {
        NeedsALoser x = of(3);
        x.bargain(0, 2, 5, 5);
        x.hurts(0, 1, 3);
        for (int sort = 0; sort < 5; sort++) {
            x.row(0, sort, 1);
            x.set(0, 0, 1);
            due("judge of sort " + sort, x.judge(0), NONE);
            due("who of sort " + sort, x.told(0, WHO), 2);
            x.set(0, 0, 0);
            due("a party of sort " + sort, x.judge(0), 0);
        }
    }

    static void p23_notGoodSo() {
        NeedsALoser x = of(4);
        deal(x, 9, 1, 5);
        deal(x, 9, 5, 4);
        x.ask(0, 5);
        tell(x, 0, 3, 2);
        due("both good", x.judge(0), NONE);
        tell(x, 0, 2, 3);
        due("neither: the first", x.judge(0), 0);
        tell(x, 0, NONE, 3);
        due("one below LEAST", x.judge(0), 1);
        tell(x, 0, 0, NONE);
        due("a party P", x.judge(0), 0);
        tell(x, 0, 1, NONE);
        due("a party Q", x.judge(0), 0);
    }

    static void p23_twiceNamed() {
        NeedsALoser x = of(4);
        deal(x, 9, 1, 1);
        deal(x, 9, 1, 1);
        deal(x, 9, 1, 1);
        tell(x, 0, 2, NONE, 2);
        due("the second of them", x.judge(0), 2);
        x.ask(1, 0);
        due("once 0", x.judge(0), NONE);
        tell(x, 0, 2, 2, 2);
        due("thrice", x.judge(0), NONE);
        due("who", x.told(0, WHO), 4);
        due("made", x.told(0, MADE), 3);
    }

    static void p23_barredByOneAhead() {
        NeedsALoser x = of(4);
        deal(x, 9, 1, 1);
        deal(x, 9, 1, 1);
        x.bars(1, 0, true);
        tell(x, 0, 2, 3);
        due("the one behind", x.judge(0), 1);
        tell(x, 0, NONE, 3);
        due("by one not made", x.judge(0), NONE);
        tell(x, 0, 2, NONE);
        due("one not made", x.judge(0), NONE);
        x.bars(0, 1, false);
        tell(x, 0, 2, 3);
        due("no more", x.judge(0), NONE);
    }

    static void p23_theLastOfSeven() {
        NeedsALoser x = of(7);
        for (int b = 0; b < 7; b++) {
            deal(x, 9, 1, 1, 1, 1, 1);
        }
        tell(x, 0, 2, 3, 4, 5, 6, NONE, 6);
        due("twice, at the very end", x.judge(0), 6);
        tell(x, 0, 2, 3, 4, 5, 6, 2, 6);
        due("the first of two", x.judge(0), 5);
        x.ask(1, 0);
        x.bars(0, 6, true);
        due("barred", x.judge(0), 6);
    }

    static void p23_judgingChangesNothing() {
        NeedsALoser x = oneDeal(9, 1);
        tell(x, 0, 2);
        x.judge(0);
        x.told(0, VALUE);
        due("standing", x.standing(2), 0);
        due("weeks", x.status(2), 0);
        due("named", x.named(2), 0);
    }

    // ---- 24: told ----

    static void p24_theLeastAndTheGreatestWhat() {
        NeedsALoser x = oneDeal(9, 4);
        tell(x, 0, 2);
        due("0", x.told(0, VALUE), 5);
        due("1", x.told(0, MADE), 1);
        due("2", x.told(0, WHO), 4);
        int[] none = {-1, 3, MIN, MAX};
        for (int what : none) {
            due("what " + what, x.told(0, what), V_BAD);
        }
    }

    static void p24_ofNoBargains() {
        NeedsALoser x = new NeedsALoser();
        x.row(0, 0, 0);
        for (int what = VALUE; what <= WHO; what++) {
            due("what " + what, x.told(0, what), 0);
        }
    }

    static void p24_aValueBelowZero() {
        NeedsALoser x = oneDeal(0, 99);
        tell(x, 0, 2);
        due("told", x.told(0, VALUE), -99);
    }

    static void p24_theGreatestAndTheLeastOfSeven() {
        NeedsALoser x = of(3);
        for (int b = 0; b < 7; b++) {
            x.bargain(0, 1, 99, 99);
            x.hurts(b, 2, 1);
        }
        x.ask(1, 0);
        tell(x, 0, 2, 2, 2, 2, 2, 2, 2);
        due("the greatest", x.told(0, VALUE), 7 * 197);
        due("made", x.told(0, MADE), 7);
        NeedsALoser y = of(3);
        for (int b = 0; b < 7; b++) {
            y.bargain(0, 1, 0, 0);
            y.hurts(b, 2, 99);
        }
        y.ask(1, 0);
        tell(y, 0, 2, 2, 2, 2, 2, 2, 2);
        due("the least", y.told(0, VALUE), -7 * 99);
    }

    static void p24_itCannotBe() {
        NeedsALoser x = oneDeal(9, 4);
        tell(x, 0, 0);
        for (int what = VALUE; what <= WHO; what++) {
            due("what " + what, x.told(0, what), V_STUCK);
        }
        due("status 15", x.status(15), 3);
        due("status 12", x.status(12), 0);
    }

    static void p24_whoIsNamedByTheirBits() {
        NeedsALoser x = of(7);
        deal(x, 9, 1, 1, 1, 1, 1);
        deal(x, 9, 1, 1, 1, 1, 1);
        x.bargain(5, 6, 1, 1);
        x.hurts(2, 0, 1);
        tell(x, 0, 6, 2, 0);
        due("who", x.told(0, WHO), 64 + 4 + 1);
    }

    // ---- 25: by ----

    static void p25_theLeastAndTheGreatestWhat() {
        NeedsALoser x = oneDeal(9, 4);
        x.rule(0, MILD, 0);
        due("0", x.by(0, VALUE), 5);
        due("1", x.by(0, MADE), 1);
        due("2", x.by(0, WHO), 4);
        int[] none = {-1, 3, MIN, MAX};
        for (int what : none) {
            due("what " + what, x.by(0, what), V_BAD);
        }
    }

    static void p25_ofNoBargainsOrNobody() {
        for (int kind = MILD; kind <= ROUND; kind++) {
            NeedsALoser x = new NeedsALoser();
            x.rule(0, kind, 99);
            for (int what = VALUE; what <= WHO; what++) {
                due("nobody, what " + what, x.by(0, what), 0);
            }
        }
    }

    static void p25_barredByOneMadeAlready() {
        NeedsALoser x = of(4);
        deal(x, 9, 1, 1);
        deal(x, 20, 2, 2);
        deal(x, 30, 3, 3);
        x.bars(0, 1, true);
        x.rule(0, MILD, 0);
        due("value", x.by(0, VALUE), 8 + 27);
        due("who", x.by(0, WHO), 12);
    }

    static void p25_barredOnlyByOneThatIsNotMade() {
        // Nobody MAY be named for BARGAIN 0: so it bars nothing.
        NeedsALoser x = of(3);
        deal(x, 9, 0);
        deal(x, 20, 2);
        x.bars(0, 1, true);
        x.rule(0, MILD, 0);
        due("value", x.by(0, VALUE), 18);
        due("made", x.by(0, MADE), 1);
    }

    static void p25_whatIsBarredTakesNobody() {
        // BARGAIN 1 is barred, so 3 is free for BARGAIN 2.
        NeedsALoser x = of(4);
        deal(x, 9, 1, 0);
        deal(x, 9, 0, 1);
        deal(x, 9, 0, 1);
        x.bars(0, 1, true);
        x.rule(0, MILD, 0);
        due("made", x.by(0, MADE), 2);
        due("who", x.by(0, WHO), 12);
    }

    static void p25_nobodyTwice() {
        NeedsALoser x = of(4);
        deal(x, 9, 1, 2);
        deal(x, 9, 1, 2);
        deal(x, 9, 1, 2);
        x.rule(0, MILD, 0);
        due("once 1", x.by(0, VALUE), 8 + 7);
        due("made", x.by(0, MADE), 2);
        x.ask(1, 0);
        due("once 0", x.by(0, VALUE), 24);
        due("who", x.by(0, WHO), 4);
    }

    static void p25_byEveryKind() {
        // LOSSES of 2, 3 and 4 by BARGAINS 0 and 1.
        NeedsALoser x = of(5);
        deal(x, 10, 3, 1, 5);
        deal(x, 10, 2, 1, 9);
        int[] a = {0, 4, 0, 0, 9, 4};
        int[] values = {9 + 8, 5 + 9, 7 + 9, 5 + 8, 9, 5 + 8};
        int[] who = {8 + 4, 16 + 8, 4 + 8, 16 + 4, 8, 16 + 4};
        for (int kind = MILD; kind <= ROUND; kind++) {
            x.rule(0, kind, a[kind - 1]);
            due("value by " + kind, x.by(0, VALUE), values[kind - 1]);
            due("who by " + kind, x.by(0, WHO), who[kind - 1]);
        }
    }

    static void p25_standingIsAsAheadOfTheWeekThroughout() {
        // By BARGAIN 0 number 4 gains 50; for BARGAIN 1 that isn't so yet, and 3 is the first.
        NeedsALoser x = of(5);
        x.bargain(0, 4, 0, 50);
        x.hurts(0, 2, 1);
        x.bargain(0, 1, 9, 0);
        x.hurts(1, 3, 1);
        x.hurts(1, 4, 1);
        x.rule(0, RICH, 0);
        due("who", x.by(0, WHO), 12);
        x.lives(0);
        due("in truth", x.named(3), 1);
        due("in the next", x.by(0, WHO), 20);
    }

    static void p25_nothingChanges() {
        NeedsALoser x = oneDeal(9, 4);
        x.rule(0, MILD, 0);
        x.by(0, VALUE);
        x.gap(0);
        x.head();
        x.says(0, MILD);
        due("standing", x.standing(2), 0);
        due("weeks", x.status(2), 0);
    }

    // ---- 26: head ----

    static void p26_noneHoldsARule() {
        NeedsALoser x = oneDeal(9, 4);
        due("all hold nothing", x.head(), -5);
        for (int s = 0; s < 8; s++) {
            x.row(s, 0, 1);
        }
        due("all hold rows", x.head(), -5);
        due("status 15", x.status(15), 2);
    }

    static void p26_theFirstAndTheLastShelf() {
        NeedsALoser x = oneDeal(9, 4);
        x.rule(7, MILD, 0);
        due("the last alone", x.head(), 7);
        x.rule(0, MILD, 0);
        due("the first too", x.head(), 0);
    }

    static void p26_ofSeveralTheFirst() {
        NeedsALoser x = oneDeal(9, 4, 5);
        x.rule(2, FOE, 0);
        x.rule(3, MILD, 0);
        x.rule(4, SWORN, 2);
        due("3 and 4 alike", x.head(), 3);
        x.rule(3, FOE, 0);
        due("4 alone", x.head(), 4);
        x.rule(4, FOE, 0);
        due("all alike", x.head(), 2);
    }

    static void p26_valuesBelowZero() {
        NeedsALoser x = oneDeal(0, 4, 5);
        x.rule(1, FOE, 0);
        due("one below 0", x.head(), 1);
        x.rule(2, MILD, 0);
        due("-5 and -4", x.head(), 2);
        x.rule(3, CHEAP, 0);
        due("and none made", x.head(), 3);
    }

    static void p26_noBargains() {
        NeedsALoser x = new NeedsALoser();
        x.rule(5, MILD, 0);
        x.rule(6, FOE, 0);
        due("all 0", x.head(), 5);
    }

    // ---- 27: lives ----

    static void p27_noBargainsIsAWeekToo() {
        NeedsALoser x = new NeedsALoser();
        x.rule(0, MILD, 0);
        due("lives", x.lives(0), 0);
        due("weeks", x.status(2), 1);
        due("made", x.status(3), 0);
    }

    static void p27_noneMadeIsAWeekToo() {
        NeedsALoser x = oneDeal(9, 0);
        x.rule(0, MILD, 0);
        due("lives", x.lives(0), 0);
        due("weeks", x.status(2), 1);
        due("made", x.status(3), 0);
        due("standing", x.standing(0), 0);
    }

    static void p27_allSevenAreMade() {
        NeedsALoser x = of(7);
        for (int b = 0; b < 7; b++) {
            x.bargain(b, (b + 1) % 7, 10 + b, 20 + b);
            x.hurts(b, (b + 3) % 7, 1 + b);
        }
        x.rule(0, MILD, 0);
        due("lives", x.lives(0), 7);
        due("weeks", x.status(2), 1);
        due("made", x.status(3), 7);
        for (int t = 0; t < 7; t++) {
            int ahead = (t + 6) % 7;
            due("standing " + t, x.standing(t), 10 + t + 20 + ahead - 1 - (t + 4) % 7);
            due("named " + t, x.named(t), 1);
        }
    }

    static void p27_shelves() {
        NeedsALoser x = oneDeal(9, 4);
        x.rule(0, MILD, 0);
        x.rule(7, MILD, 0);
        due("0", x.lives(0), 1);
        due("7", x.lives(7), 1);
        for (int s : OUT_OF_SHELVES) {
            due("shelf " + s, x.lives(s), -2);
        }
        due("weeks", x.status(2), 2);
    }

    static void p27_lossesAreThoseOfTheThirdAlone() {
        NeedsALoser x = oneDeal(9, 4, 5, 6);
        x.hurts(0, 0, 50);
        x.rule(0, MILD, 0);
        x.lives(0);
        int[] standings = {9, 0, -4, 0, 0};
        for (int t = 0; t < 5; t++) {
            due("standing " + t, x.standing(t), standings[t]);
        }
    }

    // ---- 28: makes ----

    static void p28_noBargainsIsAWeekToo() {
        NeedsALoser x = new NeedsALoser();
        x.row(0, 0, 0);
        due("makes", x.makes(0), 0);
        due("weeks", x.status(2), 1);
    }

    static void p28_noneMadeIsAWeekToo() {
        NeedsALoser x = oneDeal(9, 4);
        tell(x, 0, NONE);
        due("makes", x.makes(0), 0);
        due("weeks", x.status(2), 1);
        due("made", x.status(3), 0);
    }

    static void p28_elementsAsManyAsBargains() {
        NeedsALoser x = of(4);
        deal(x, 9, 4);
        deal(x, 9, 0, 4);
        tell(x, 0, 2);
        due("one fewer", x.makes(0), -2);
        tell(x, 0, 2, 3);
        due("as many", x.makes(0), 2);
        tell(x, 0, 2, 3, 0);
        due("one more", x.makes(0), 2);
        due("weeks", x.status(2), 2);
    }

    static void p28_whatCannotBeIsNotMade() {
        NeedsALoser x = of(4);
        deal(x, 9, 4, 4);
        deal(x, 9, 4, 4);
        tell(x, 0, 2, 2);
        due("makes", x.makes(0), -5);
        due("weeks", x.status(2), 0);
        due("made", x.status(3), 0);
        due("standing of the party", x.standing(0), 0);
        due("standing", x.standing(2), 0);
        due("named", x.named(2), 0);
        due("status 15", x.status(15), 1);
    }

    static void p28_shelves() {
        NeedsALoser x = oneDeal(9, 4);
        tell(x, 0, 2);
        tell(x, 7, 2);
        due("0", x.makes(0), 1);
        due("7", x.makes(7), 1);
        for (int s : OUT_OF_SHELVES) {
            due("shelf " + s, x.makes(s), -2);
        }
        due("weeks", x.status(2), 2);
    }

    // ---- 33: gap ----

    static void p33_noneAndMoreThanBest() {
        NeedsALoser x = oneDeal(9, 4, 6);
        x.rule(0, MILD, 0);
        x.rule(1, FOE, 0);
        due("none", x.gap(0), 0);
        due("2", x.gap(1), 2);
        NeedsALoser y = oneDeal(0, 99);
        y.rule(0, MILD, 0);
        due("best is 0", y.gap(0), 99);
        NeedsALoser z = new NeedsALoser();
        z.rule(0, MILD, 0);
        due("of nothing", z.gap(0), 0);
    }

    static void p33_shelves() {
        NeedsALoser x = oneDeal(9, 4);
        x.rule(7, MILD, 0);
        x.row(6, 0, 1);
        due("7", x.gap(7), 0);
        due("a row", x.gap(6), V_OTHER);
        due("nothing", x.gap(5), V_NOTHING);
        for (int s : OUT_OF_SHELVES) {
            due("shelf " + s, x.gap(s), V_BAD);
        }
    }

    // ---- 52, 53: week, weeks ----

    static void p52_noDrawWhereNobodyMayBeNamed() {
        NeedsALoser x = oneDeal(9, 0);
        x.seed(77);
        due("week", x.week(), 0);
        due("seed", x.status(9), 77);
        due("weeks", x.status(2), 1);
        due("of no bargains", new NeedsALoser().week(), 0);
    }

    static void p52_aDrawBelowOne() {
        NeedsALoser x = oneDeal(9, 0, 4);
        due("week", x.week(), 1);
        due("seed", x.status(9), 1103527590);
        due("named", x.named(3), 1);
    }

    static void p52_theSeedWrapsAround() {
        // 1, then 1103527590, then less than 0.
        NeedsALoser x = oneDeal(9, 4);
        x.weeks(2);
        due("seed", x.status(9), -1770082073);
        x.week();
        due("seed", x.status(9), 662824084);
    }

    static void p52_theUpperSixteenBitsHaveNoSign() {
        // The least int becomes -2147471303, its upper bits 32768: modulo 3 that is 2.
        NeedsALoser x = oneDeal(9, 4, 4, 4);
        x.seed(MIN);
        due("week", x.week(), 1);
        due("seed", x.status(9), -2147471303);
        due("the third of three", x.named(4), 1);
    }

    static void p52_theSeedOfZero() {
        // 12345: its upper bits are 0.
        NeedsALoser x = oneDeal(9, 4, 4, 4);
        x.seed(0);
        x.week();
        due("seed", x.status(9), 12345);
        due("the first of three", x.named(2), 1);
    }

    static void p52_everyPlaceOfFive() {
        // From SEED 1 the upper bits modulo 5 are 3, 1, 3, 3, 4, 0.
        NeedsALoser x = oneDeal(9, 1, 1, 1, 1, 1);
        int[] places = {3, 1, 3, 3, 4, 0};
        int[] times = new int[5];
        for (int place : places) {
            x.week();
            times[place]++;
            for (int t = 0; t < 5; t++) {
                due("named " + (2 + t), x.named(2 + t), times[t]);
            }
        }
    }

    static void p52_placesAreOfThoseWhoMayByNumbers() {
        // Of 3 and 5 alone; from SEED 1 the upper bits modulo 2 are 0, 0, 1.
        NeedsALoser x = oneDeal(9, 0, 4, 0, 4);
        x.weeks(2);
        due("3", x.named(3), 2);
        x.week();
        due("5", x.named(5), 1);
    }

    static void p52_theFirstOfThePeopleAndTheLast() {
        // Of 0 and 6; from SEED 1 the upper bits modulo 2 are 0, 0, 1, 1.
        NeedsALoser x = of(7);
        x.bargain(2, 3, 9, 9);
        x.hurts(0, 0, 1);
        x.hurts(0, 6, 1);
        x.weeks(2);
        due("the first", x.named(0), 2);
        x.weeks(2);
        due("the last", x.named(6), 2);
        due("the first", x.named(0), 2);
    }

    static void p52_namedOnceInAWeek() {
        // From SEED 2 the upper bits are 33676 (modulo 2: 0) and 22817 (modulo 1: 0).
        NeedsALoser x = of(4);
        deal(x, 9, 1, 1);
        deal(x, 9, 1, 1);
        deal(x, 9, 1, 1);
        x.seed(2);
        due("once 1", x.week(), 2);
        due("seed", x.status(9), 1495354192);
        due("2", x.named(2), 1);
        due("3", x.named(3), 1);
        x.ask(1, 0);
        x.seed(2);
        due("once 0", x.week(), 3);
        // Modulo 2: 0, 1, 1.
        due("seed", x.status(9), -1476419255);
        due("2", x.named(2), 2);
        due("3", x.named(3), 3);
    }

    static void p52_noDrawForWhatIsBarred() {
        NeedsALoser x = of(5);
        deal(x, 9, 1, 0, 0);
        deal(x, 9, 0, 1, 0);
        deal(x, 9, 0, 0, 1);
        x.bars(0, 1, true);
        due("week", x.week(), 2);
        due("two draws", x.status(9), -1770082073);
        due("barred", x.named(3), 0);
        due("behind it", x.named(4), 1);
    }

    static void p52_barredOnlyByWhatIsMade() {
        NeedsALoser x = of(4);
        deal(x, 9, 0, 0);
        deal(x, 9, 0, 1);
        x.bars(0, 1, true);
        due("week", x.week(), 1);
        due("named", x.named(3), 1);
    }

    static void p52_inTruth() {
        NeedsALoser x = of(3);
        x.bargain(0, 1, 7, 8);
        x.hurts(0, 2, 5);
        due("week", x.week(), 1);
        due("P", x.standing(0), 7);
        due("Q", x.standing(1), 8);
        due("third", x.standing(2), -5);
        due("weeks", x.status(2), 1);
        due("made", x.status(3), 1);
    }

    static void p53_theFewestAndTheMostWeeks() {
        NeedsALoser x = oneDeal(9, 4);
        due("1", x.weeks(1), 1);
        due("30", x.weeks(30), 30);
        int seed = x.status(9);
        int[] none = {0, 31, -1, MIN, MAX};
        for (int n : none) {
            due("weeks " + n, x.weeks(n), -2);
        }
        due("weeks", x.status(2), 31);
        due("seed", x.status(9), seed);
        due("status 12", x.status(12), 5);
    }

    static void p53_ofNoBargains() {
        NeedsALoser x = new NeedsALoser();
        due("weeks", x.weeks(30), 0);
        due("weeks gone by", x.status(2), 30);
        due("made", x.status(3), 0);
        due("seed", x.status(9), 1);
    }

    static void p53_asManyWeeksOneByOne() {
        NeedsALoser x = of(7);
        NeedsALoser y = of(7);
        for (int b = 0; b < 7; b++) {
            deal(x, 9, 1, b, 2, b - 1, 3);
            deal(y, 9, 1, b, 2, b - 1, 3);
        }
        int made = 0;
        for (int i = 0; i < 30; i++) {
            made += y.week();
        }
        due("weeks", x.weeks(30), made);
        for (int t = 0; t < 7; t++) {
            due("standing " + t, x.standing(t), y.standing(t));
            due("named " + t, x.named(t), y.named(t));
        }
        due("seed", x.status(9), y.status(9));
    }

    static void p53_sevenMadeInEachOfThirty() {
        NeedsALoser x = of(3);
        for (int b = 0; b < 7; b++) {
            x.bargain(0, 1, 99, 99);
            x.hurts(b, 2, 99);
        }
        x.ask(1, 0);
        due("weeks", x.weeks(30), 210);
        due("P", x.standing(0), 210 * 99);
        due("third", x.standing(2), -210 * 99);
        due("named", x.named(2), 210);
        due("fair", x.fair(), 210);
    }
}
