import java.lang.reflect.InvocationTargetException;
import java.lang.reflect.Method;
import java.util.Arrays;
import java.util.Comparator;

/**
 * Promises 29 to 32, 34, 39 to 51 (BEST, what can be, the COURT, other laws): for each sentence that
 * names a boundary case a test of its own, each method one.
 */
public final class BestEdgesTest {
    private static final int NONE = -1;
    private static final int V_BAD = -1000002;
    private static final int V_STUCK = -1000005;
    private static final int MIN = Integer.MIN_VALUE;
    private static final int MAX = Integer.MAX_VALUE;
    private static String running = "";
    private static int wrong = 0;

    public static void main(String[] args) throws IllegalAccessException {
        Method[] methods = BestEdgesTest.class.getDeclaredMethods();
        Arrays.sort(methods, Comparator.comparing(Method::getName));
        for (Method method : methods) {
            if (method.getName().matches("p\\d\\d_\\w+")) {
                running = method.getName();
                try {
                    method.invoke(null);
                } catch (InvocationTargetException thrown) {
                    wrong++;
                    System.out.println(running + " threw " + thrown.getCause());
                }
            }
        }
        System.out.println(wrong == 0 ? "all answers are as due" : wrong + " answers are not as due");
        if (wrong != 0) {
            System.exit(1);
        }
    }

    private static void due(String call, long got, long want) {
        if (got != want) {
            wrong++;
            System.out.println(running + ": " + call + " answered " + got + ", due is " + want);
        }
    }

    private static NeedsALoser of(int people) {
        NeedsALoser x = new NeedsALoser();
        for (int i = 0; i < people; i++) {
            x.one();
        }
        return x;
    }

    /** A BARGAIN of 0 and 1; the LOSSES are those of 2, 3 and so on. */
    private static void deal(NeedsALoser x, int gain, int... losses) {
        int bargain = x.bargain(0, 1, gain, 0);
        for (int i = 0; i < losses.length; i++) {
            x.hurts(bargain, 2 + i, losses[i]);
        }
    }

    /** PEOPLE 0 and 1 have one BARGAIN; the LOSSES are those of 2, 3 and so on. */
    private static NeedsALoser oneDeal(int gain, int... losses) {
        NeedsALoser x = of(2 + losses.length);
        deal(x, gain, losses);
        return x;
    }

    private static void dueThirds(NeedsALoser x, int... thirds) {
        for (int b = 0; b < thirds.length; b++) {
            due("bestOf " + b, x.bestOf(b), thirds[b]);
        }
    }

    /** Seven PEOPLE, seven BARGAINS, each of its number and the next, GOOD by all others. */
    private static NeedsALoser full(int gain, int loss) {
        NeedsALoser x = of(7);
        for (int b = 0; b < 7; b++) {
            x.bargain(b, (b + 1) % 7, gain, gain);
            for (int t = 0; t < 7; t++) {
                x.hurts(b, t, loss);
            }
        }
        return x;
    }

    // ---- 29: best ----

    static void p29_ofNobodyAndOfNoBargains() {
        due("nobody", of(0).best(), 0);
        due("no bargains", of(7).best(), 0);
        due("no third", oneDeal(9).best(), 0);
    }

    static void p29_zeroAtLeast() {
        due("a value of -1", oneDeal(8, 9).best(), 0);
        due("a value of 0", oneDeal(9, 9).best(), 0);
        due("a value of 1", oneDeal(10, 9).best(), 1);
    }

    static void p29_aLossOfLeastAndOneBelow() {
        NeedsALoser x = oneDeal(50, 9);
        x.ask(0, 9);
        due("of LEAST", x.best(), 41);
        x.ask(0, 10);
        due("one below", x.best(), 0);
    }

    static void p29_theGreatestOfAll() {
        due("once 1", full(99, 1).best(), 7 * 197);
        NeedsALoser x = full(99, 1);
        x.ask(1, 0);
        due("once 0", x.best(), 7 * 197);
    }

    static void p29_onceNoMoreThanThirds() {
        // One third alone for seven BARGAINS.
        NeedsALoser x = of(3);
        for (int b = 0; b < 7; b++) {
            deal(x, 10 + b, 1);
        }
        due("once 1", x.best(), 15);
        x.ask(1, 0);
        due("once 0", x.best(), 9 + 10 + 11 + 12 + 13 + 14 + 15);
    }

    static void p29_whatIsBarredIsNotMadeTogether() {
        NeedsALoser x = of(4);
        deal(x, 10, 1, 1);
        deal(x, 12, 1, 1);
        deal(x, 10, 1, 1);
        x.ask(1, 0);
        due("no bars", x.best(), 9 + 11 + 9);
        x.bars(0, 1, true);
        due("0 and 2", x.best(), 11 + 9);
        x.bars(1, 2, true);
        due("0 and 2, or 1", x.best(), 18);
        x.bars(0, 2, true);
        due("but one", x.best(), 11);
    }

    static void p29_itIsNotOneByOne() {
        // The dearer way for BARGAIN 0 leaves 2 for BARGAIN 1.
        NeedsALoser x = of(4);
        deal(x, 20, 1, 3);
        deal(x, 20, 2);
        due("best", x.best(), 17 + 18);
        dueThirds(x, 3, 2);
    }

    static void p29_itChangesNothing() {
        NeedsALoser x = oneDeal(9, 4);
        x.best();
        x.worth(2);
        x.fewest();
        due("weeks", x.status(2), 0);
        due("standing", x.standing(2), 0);
        due("seed", x.status(9), 1);
    }

    static void p29_theFirstOfThePeopleAndTheLast() {
        NeedsALoser x = of(7);
        x.bargain(2, 3, 9, 0);
        x.bargain(2, 3, 9, 0);
        x.hurts(0, 0, 1);
        x.hurts(1, 6, 1);
        due("best", x.best(), 16);
        dueThirds(x, 0, 6);
        due("worth of the first", x.worth(0), 8);
        due("worth of the last", x.worth(6), 8);
        due("dearest", x.dearest(), 0);
        due("fewest", x.fewest(), 65);
        due("harm of the first", x.harm(0), 1);
        due("harm of the last", x.harm(6), 1);
        due("hiding by the first", x.hiding(0, 0), 0);
        due("hiding by the last", x.hiding(0, 6), 0);
    }

    // ---- 30: bestOf ----

    static void p30_noneAheadOfAnyThird() {
        // A value of 0 is as good made as not: none is the first.
        dueThirds(oneDeal(9, 9), NONE);
    }

    static void p30_ofSeveralThirdsTheFirst() {
        dueThirds(oneDeal(9, 4, 4, 4), 2);
        dueThirds(oneDeal(9, 5, 4, 4), 3);
    }

    static void p30_bargainZeroFirst() {
        // Both may take 2 or 3: (2, 3) is ahead of (3, 2).
        NeedsALoser x = of(4);
        deal(x, 9, 1, 1);
        deal(x, 9, 1, 1);
        dueThirds(x, 2, 3);
    }

    static void p30_noneOfBargainZeroAheadOfAllElse() {
        // But one of two can be made: (none, 2) is ahead of (2, none).
        NeedsALoser x = of(3);
        deal(x, 9, 1);
        deal(x, 9, 1);
        dueThirds(x, NONE, 2);
        x.ask(1, 0);
        dueThirds(x, 2, 2);
        x.bars(0, 1, true);
        dueThirds(x, NONE, 2);
    }

    static void p30_noneThenThirdZero() {
        // 0 is the third for a BARGAIN of others.
        NeedsALoser x = of(4);
        x.bargain(2, 3, 9, 0);
        x.hurts(0, 0, 4);
        x.hurts(0, 1, 4);
        dueThirds(x, 0);
    }

    static void p30_aGreaterValueAheadOfAnEarlierRow() {
        NeedsALoser x = of(4);
        deal(x, 9, 4, 3);
        deal(x, 9, 4, 5);
        dueThirds(x, 3, 2);
    }

    static void p30_theRowAsAWholeOfSeven() {
        // Seven BARGAINS alike, five thirds: the first two aren't made.
        NeedsALoser x = of(7);
        for (int b = 0; b < 7; b++) {
            deal(x, 9, 1, 1, 1, 1, 1);
        }
        dueThirds(x, NONE, NONE, 2, 3, 4, 5, 6);
    }

    static void p30_aFullTownByRow() {
        // All seven are made; were 3 the third of BARGAIN 4, but 6 were left for BARGAIN 5 or 6, a PARTY of both.
        dueThirds(full(9, 1), 2, 0, 1, 5, 6, 3, 4);
    }

    static void p30_bargainsThatAreNone() {
        NeedsALoser x = oneDeal(9, 4);
        int[] none = {-1, 1, MIN, MAX};
        for (int b : none) {
            due("bestOf " + b, x.bestOf(b), -2);
        }
        due("status 12", x.status(12), 4);
    }

    static void p30_noneIsNotRefused() {
        NeedsALoser x = oneDeal(1, 4);
        due("bestOf", x.bestOf(0), NONE);
        for (int what = 12; what <= 16; what++) {
            due("status " + what, x.status(what), 0);
        }
    }

    // ---- 31, 32: worth, dearest ----

    static void p31_ofOneWhoIsNotNeeded() {
        NeedsALoser x = oneDeal(9, 4, 4);
        due("a party", x.worth(0), 0);
        due("one of two alike", x.worth(2), 0);
        due("the other", x.worth(3), 0);
        due("of nothing", of(1).worth(0), 0);
    }

    static void p31_ofTheOnlyOneAndOfTheBetter() {
        due("the only one", oneDeal(9, 4).worth(2), 5);
        due("the better by 2", oneDeal(9, 4, 6).worth(2), 2);
        due("the worse", oneDeal(9, 4, 6).worth(3), 0);
    }

    static void p31_ofOneNamedTwice() {
        NeedsALoser x = of(3);
        deal(x, 9, 1);
        deal(x, 9, 2);
        due("once 1", x.worth(2), 8);
        x.ask(1, 0);
        due("once 0", x.worth(2), 15);
    }

    static void p31_peopleWhoAreNone() {
        NeedsALoser x = oneDeal(9, 4);
        int[] nobody = {-1, 3, MIN, MAX};
        for (int t : nobody) {
            due("worth " + t, x.worth(t), -2);
        }
        due("of nobody", of(0).worth(0), -2);
    }

    static void p32_nobody() {
        NeedsALoser x = of(0);
        due("dearest", x.dearest(), -5);
        due("status 15", x.status(15), 1);
    }

    static void p32_ofSeveralTheFirst() {
        due("one alone", of(1).dearest(), 0);
        due("all of no worth", oneDeal(9, 4, 4).dearest(), 0);
        NeedsALoser x = of(4);
        deal(x, 9, 0, 4);
        deal(x, 9, 4, 0);
        due("2 and 3 alike", x.dearest(), 2);
    }

    static void p32_theLast() {
        due("the last", oneDeal(9, 6, 6, 6, 6, 5).dearest(), 6);
    }

    // ---- 34: fewest ----

    static void p34_nobodyIsNeeded() {
        due("nobody is", of(0).fewest(), 0);
        due("no bargains", of(7).fewest(), 0);
        due("a value of 0", oneDeal(9, 9).fewest(), 0);
        due("a value of 1", oneDeal(10, 9).fewest(), 4);
    }

    static void p34_ofSeveralTheLeast() {
        due("2 or 3 or 4", oneDeal(9, 4, 4, 4).fewest(), 4);
        due("3 or 4", oneDeal(9, 5, 4, 4).fewest(), 8);
    }

    static void p34_fewerOfGreaterNumbersAheadOfMoreOfLess() {
        NeedsALoser x = of(5);
        deal(x, 9, 1, 0, 1);
        deal(x, 9, 0, 1, 1);
        x.ask(1, 0);
        due("once 0", x.fewest(), 16);
        x.ask(1, 1);
        due("once 1", x.fewest(), 12);
    }

    static void p34_aBargainWorthNothingNeedsNobody() {
        NeedsALoser x = of(4);
        deal(x, 9, 4, 0);
        deal(x, 9, 0, 9);
        due("fewest", x.fewest(), 4);
    }

    static void p34_allOfSeven() {
        NeedsALoser x = full(9, 1);
        // Six can't be named for seven BARGAINS.
        due("once 1", x.fewest(), 127);
        x.ask(1, 0);
        // 0 and 1 are the PARTIES of BARGAIN 0, 0 and 2 are those of none.
        due("once 0", x.fewest(), 5);
    }

    // ---- 39: never ----

    static void p39_noneAndAll() {
        due("of no bargains", of(3).never(), 0);
        due("all of seven", neverOfSeven(1), 127);
        due("none of seven", neverOfSeven(0), 0);
    }

    private static int neverOfSeven(int less) {
        NeedsALoser x = of(3);
        for (int b = 0; b < 7; b++) {
            deal(x, 9, 1 - less);
        }
        return x.never();
    }

    static void p39_goodByAPartyAloneIsNever() {
        NeedsALoser x = of(3);
        deal(x, 9);
        deal(x, 9, 1);
        x.hurts(0, 0, 99);
        x.hurts(0, 1, 99);
        due("never", x.never(), 1);
        x.ask(0, 2);
        due("by another law", x.never(), 3);
    }

    // ---- 40: free ----

    static void p40_ofNoBargains() {
        due("nobody", of(0).free(), 0);
        due("no bargains", of(7).free(), 0);
        due("gains of 0", oneDeal(0).free(), 0);
        due("one bargain", oneDeal(9).free(), 9);
    }

    static void p40_theGreatestOfAll() {
        NeedsALoser x = of(2);
        for (int b = 0; b < 7; b++) {
            x.bargain(0, 1, 99, 99);
        }
        due("free", x.free(), 7 * 198);
    }

    static void p40_asIfThereWereNoLaw() {
        NeedsALoser x = oneDeal(9, 99);
        deal(x, 9);
        x.ask(0, 99);
        due("without losses or thirds", x.free(), 18);
    }

    static void p40_ofBars() {
        NeedsALoser x = of(2);
        int[] gains = {5, 9, 5, 3, 0, 1, 2};
        for (int gain : gains) {
            x.bargain(0, 1, gain, 0);
        }
        x.bars(0, 1, true);
        x.bars(1, 2, true);
        due("two of 5 ahead of one of 9", x.free(), 5 + 5 + 3 + 1 + 2);
        x.bars(0, 2, true);
        due("one of three", x.free(), 9 + 3 + 1 + 2);
        for (int b = 0; b < 7; b++) {
            for (int c = b + 1; c < 7; c++) {
                x.bars(b, c, true);
            }
        }
        due("all bar all", x.free(), 9);
    }

    // ---- 41: cross ----

    /** BARGAIN 0 of 0 and 1, GOOD by 2; BARGAIN 1 of 2 and 3, GOOD by 1. */
    private static NeedsALoser crossed() {
        NeedsALoser x = of(5);
        x.bargain(0, 1, 10, 0);
        x.bargain(2, 3, 20, 0);
        x.hurts(0, 2, 4);
        x.hurts(1, 1, 5);
        return x;
    }

    static void p41_eachByAPartyOfTheOther() {
        NeedsALoser x = crossed();
        due("cross", x.cross(0, 1, 0), 1);
        due("value", x.cross(0, 1, 1), 6 + 15);
        due("the other way", x.cross(1, 0, 1), 21);
    }

    static void p41_oneOfThemAloneIsNotEnough() {
        NeedsALoser x = crossed();
        x.hurts(0, 2, 0);
        due("the one", x.cross(0, 1, 0), 0);
        due("the other", x.cross(1, 0, 0), 0);
        due("value", x.cross(0, 1, 1), V_STUCK);
        due("value", x.cross(1, 0, 1), V_STUCK);
        due("status 15", x.status(15), 2);
    }

    static void p41_byOneWhoIsNoPartyOfTheOther() {
        NeedsALoser x = crossed();
        x.hurts(0, 2, 0);
        x.hurts(0, 4, 9);
        due("cross", x.cross(0, 1, 0), 0);
        x.hurts(0, 3, 1);
        due("by Q", x.cross(0, 1, 0), 1);
    }

    static void p41_theBestOfBothParties() {
        NeedsALoser x = crossed();
        x.hurts(0, 3, 1);
        x.hurts(1, 0, 3);
        due("value", x.cross(0, 1, 1), 9 + 17);
        x.hurts(0, 4, 1);
        x.hurts(0, 3, 4);
        due("others don't count", x.cross(0, 1, 1), 6 + 17);
    }

    static void p41_byTheLeastLossThatIsGood() {
        NeedsALoser x = crossed();
        x.hurts(0, 3, 5);
        x.ask(0, 5);
        due("4 is no more good", x.cross(0, 1, 1), 5 + 15);
    }

    static void p41_barsAside() {
        NeedsALoser x = crossed();
        x.bars(0, 1, true);
        due("barred", x.cross(0, 1, 1), 21);
        due("cross", x.cross(0, 1, 0), 1);
    }

    static void p41_ofTheSameParties() {
        NeedsALoser x = of(3);
        deal(x, 9, 1);
        deal(x, 9, 1);
        x.hurts(0, 0, 5);
        x.hurts(1, 1, 5);
        due("no party is good by itself", x.cross(0, 1, 0), 0);
    }

    static void p41_valuesBelowZero() {
        NeedsALoser x = of(4);
        x.bargain(0, 1, 0, 0);
        x.bargain(2, 3, 0, 0);
        x.hurts(0, 2, 99);
        x.hurts(1, 0, 99);
        due("the least", x.cross(0, 1, 1), -198);
    }

    static void p41_theLeastAndTheGreatestWhat() {
        NeedsALoser x = crossed();
        int[] none = {-1, 2, MIN, MAX};
        for (int what : none) {
            due("what " + what, x.cross(0, 1, what), V_BAD);
        }
        x.hurts(0, 2, 0);
        due("bad ahead of stuck", x.cross(0, 1, 2), V_BAD);
    }

    static void p41_bargainsThatAreNoneAndOneWithItself() {
        NeedsALoser x = crossed();
        int[] none = {-1, 2, MIN, MAX};
        for (int b : none) {
            due("bargain " + b, x.cross(b, 0, 0), V_BAD);
            due("other " + b, x.cross(0, b, 0), V_BAD);
        }
        due("0 with itself", x.cross(0, 0, 0), V_BAD);
        due("1 with itself", x.cross(1, 1, 1), V_BAD);
    }

    // ---- 42: rings ----

    static void p42_fewerThanThree() {
        due("of none", of(0).rings(), 0);
        due("of one", oneDeal(9, 1).rings(), 0);
        due("of two", crossed().rings(), 0);
    }

    /** Three BARGAINS of six PEOPLE, two each. */
    private static NeedsALoser three() {
        NeedsALoser x = of(7);
        x.bargain(0, 1, 0, 0);
        x.bargain(2, 3, 0, 0);
        x.bargain(4, 5, 0, 0);
        return x;
    }

    static void p42_oneRoundOneWay() {
        NeedsALoser x = three();
        x.hurts(0, 2, 1);
        x.hurts(1, 4, 1);
        due("not yet", x.rings(), 0);
        x.hurts(2, 1, 1);
        due("round", x.rings(), 1);
    }

    static void p42_oneRoundTheOtherWay() {
        NeedsALoser x = three();
        x.hurts(0, 5, 1);
        x.hurts(2, 3, 1);
        due("not yet", x.rings(), 0);
        x.hurts(1, 0, 1);
        due("round", x.rings(), 1);
    }

    static void p42_anyOfTheThreeMissing() {
        int[][] oneWay = {{0, 2}, {1, 4}, {2, 0}};
        int[][] otherWay = {{0, 4}, {2, 2}, {1, 0}};
        for (int missing = 0; missing < 3; missing++) {
            NeedsALoser x = three();
            NeedsALoser y = three();
            for (int i = 0; i < 3; i++) {
                x.hurts(oneWay[i][0], oneWay[i][1], i == missing ? 0 : 1);
                y.hurts(otherWay[i][0], otherWay[i][1], i == missing ? 0 : 1);
            }
            due("one way without " + missing, x.rings(), 0);
            due("the other way without " + missing, y.rings(), 0);
            x.hurts(oneWay[missing][0], oneWay[missing][1], 1);
            y.hurts(otherWay[missing][0], otherWay[missing][1], 1);
            due("one way", x.rings(), 1);
            due("the other way", y.rings(), 1);
        }
    }

    static void p42_bothWaysRoundIsOneSet() {
        NeedsALoser x = three();
        for (int b = 0; b < 3; b++) {
            for (int t = 0; t < 6; t++) {
                x.hurts(b, t, 1);
            }
        }
        due("rings", x.rings(), 1);
    }

    static void p42_twoThatNameEachOthersAreNone() {
        NeedsALoser x = three();
        x.hurts(0, 2, 1);
        x.hurts(1, 0, 1);
        x.hurts(2, 0, 1);
        x.hurts(0, 4, 1);
        due("rings", x.rings(), 0);
    }

    static void p42_byOneWhoIsNoPartyOfTheNext() {
        NeedsALoser x = three();
        x.hurts(0, 2, 1);
        x.hurts(1, 4, 1);
        x.hurts(2, 6, 1);
        due("rings", x.rings(), 0);
    }

    static void p42_barsAsideAndByTheLaw() {
        NeedsALoser x = three();
        x.hurts(0, 2, 4);
        x.hurts(1, 4, 4);
        x.hurts(2, 1, 3);
        x.bars(0, 1, true);
        due("barred", x.rings(), 1);
        x.ask(0, 3);
        due("least 3", x.rings(), 1);
        x.ask(0, 4);
        due("least 4", x.rings(), 0);
    }

    static void p42_allSetsOfSeven() {
        due("35", full(0, 1).rings(), 35);
        NeedsALoser x = full(0, 1);
        for (int t = 0; t < 7; t++) {
            x.hurts(6, t, 0);
        }
        due("without the last: 20", x.rings(), 20);
    }

    // ---- 43, 44: harm, worst ----

    static void p43_zeroAtLeast() {
        due("of nothing", of(1).harm(0), 0);
        NeedsALoser x = oneDeal(9, -5, 0);
        due("who gains", x.harm(2), 0);
        due("who loses nothing", x.harm(3), 0);
        due("a party", x.harm(0), 0);
    }

    static void p43_belowTheLawItIsNone() {
        NeedsALoser x = oneDeal(9, 4);
        x.ask(0, 4);
        due("of LEAST", x.harm(2), 4);
        x.ask(0, 5);
        due("one below", x.harm(2), 0);
    }

    static void p43_onceTheGreatestOfThem() {
        NeedsALoser x = of(3);
        deal(x, 9, 5);
        deal(x, 9, 7);
        deal(x, 9, 6);
        due("once 1", x.harm(2), 7);
        x.ask(1, 0);
        due("once 0", x.harm(2), 18);
        x.bars(1, 0, true);
        due("5 barred by 7", x.harm(2), 13);
        x.bars(1, 2, true);
        due("7 barred by both", x.harm(2), 11);
        x.ask(0, 6);
        due("only 7 and 6 are good", x.harm(2), 7);
    }

    static void p43_ofOneBargainAlone() {
        NeedsALoser x = oneDeal(9, 5);
        due("once 1", x.harm(2), 5);
        x.ask(1, 0);
        due("once 0", x.harm(2), 5);
        deal(x, 9);
        due("the first of two", x.harm(2), 5);
    }

    static void p43_whateverItsValueBe() {
        due("a value below 0", oneDeal(0, 99).harm(2), 99);
    }

    static void p43_theGreatestOfAll() {
        NeedsALoser x = of(3);
        for (int b = 0; b < 7; b++) {
            deal(x, 0, 99);
        }
        due("once 1", x.harm(2), 99);
        x.ask(1, 0);
        due("once 0", x.harm(2), 693);
    }

    static void p43_peopleWhoAreNone() {
        NeedsALoser x = oneDeal(9, 4);
        int[] nobody = {-1, 3, MIN, MAX};
        for (int t : nobody) {
            due("harm " + t, x.harm(t), -2);
        }
    }

    static void p44_nobody() {
        NeedsALoser x = of(0);
        due("worst", x.worst(), -5);
        due("status 15", x.status(15), 1);
    }

    static void p44_ofSeveralTheFirst() {
        due("one alone", of(1).worst(), 0);
        due("no harm at all", oneDeal(9, 0, 0).worst(), 0);
        due("2 and 3 alike", oneDeal(9, 4, 4).worst(), 2);
        due("3 more", oneDeal(9, 4, 5).worst(), 3);
        due("the last", oneDeal(9, 4, 4, 4, 4, 5).worst(), 6);
    }

    static void p44_byOnce() {
        NeedsALoser x = of(4);
        deal(x, 9, 4, 5);
        deal(x, 9, 4, 0);
        due("once 1", x.worst(), 3);
        x.ask(1, 0);
        due("once 0", x.worst(), 2);
    }

    // ---- 45: hated ----

    static void p45_nobody() {
        NeedsALoser x = of(0);
        due("hated", x.hated(), -5);
        due("status 15", x.status(15), 1);
    }

    static void p45_ofSeveralTheFirst() {
        due("one alone", of(1).hated(), 0);
        due("all by none", oneDeal(9, 0, 0).hated(), 0);
        due("2 and 3 alike", oneDeal(9, 1, 99).hated(), 2);
        due("the last", oneDeal(9, 0, 0, 0, 0, 1).hated(), 6);
    }

    static void p45_mostBargainsNotMostLosses() {
        NeedsALoser x = of(4);
        deal(x, 9, 99, 1);
        deal(x, 9, 0, 1);
        due("3", x.hated(), 3);
        x.ask(0, 2);
        due("by another law", x.hated(), 2);
    }

    static void p45_partiesAreNoThirds() {
        NeedsALoser x = oneDeal(9, 1);
        x.hurts(0, 0, 9);
        due("hated", x.hated(), 2);
    }

    // ---- 46: said ----

    static void p46_aLossOneBelowLeastAndLeast() {
        NeedsALoser x = oneDeal(9, 4);
        x.ask(0, 5);
        due("one below", x.said(0, 2), 5 * 5 - 250);
        x.ask(0, 4);
        due("of LEAST", x.said(0, 2), V_STUCK);
        due("status 15", x.status(15), 1);
    }

    static void p46_ofAParty() {
        NeedsALoser x = oneDeal(9, 4);
        x.ask(0, 99);
        due("P", x.said(0, 0), V_STUCK);
        due("Q", x.said(0, 1), V_STUCK);
        due("third", x.said(0, 2), 25 - 250);
    }

    static void p46_noCourtAndAllOfIt() {
        NeedsALoser x = oneDeal(9, 0);
        x.ask(2, 0);
        due("court 0", x.said(0, 2), 90);
        x.ask(2, 10);
        due("court 10", x.said(0, 2), -500);
        x.ask(2, 9);
        due("court 9", x.said(0, 2), 9 - 450);
        x.ask(2, 1);
        due("court 1", x.said(0, 2), 81 - 50);
    }

    static void p46_noFineAndTheGreatest() {
        NeedsALoser x = oneDeal(9, 0);
        x.ask(3, 0);
        due("fine 0", x.said(0, 2), 45);
        x.ask(3, 999);
        due("fine 999", x.said(0, 2), 45 - 4995);
    }

    static void p46_theGreatestAndTheLeastOfAll() {
        NeedsALoser x = of(3);
        x.bargain(0, 1, 99, 99);
        x.hurts(0, 2, -99);
        x.ask(2, 0);
        due("the greatest", x.said(0, 2), 2970);
        NeedsALoser y = oneDeal(0, 98);
        y.ask(0, 99);
        y.ask(3, 999);
        y.ask(2, 10);
        due("the least", y.said(0, 2), -9990);
        y.ask(2, 0);
        due("a loss alone", y.said(0, 2), -980);
    }

    static void p46_bargainsAndPeopleThatAreNone() {
        NeedsALoser x = oneDeal(9, 0);
        int[] noBargain = {-1, 1, MIN, MAX};
        for (int b : noBargain) {
            due("bargain " + b, x.said(b, 2), V_BAD);
        }
        int[] nobody = {-1, 3, MIN, MAX};
        for (int t : nobody) {
            due("third " + t, x.said(0, t), V_BAD);
        }
        due("status 15", x.status(15), 0);
    }

    // ---- 47: dares ----

    static void p47_moreThanZero() {
        NeedsALoser x = oneDeal(10, 0);
        x.ask(3, 10);
        due("said brings 0", x.said(0, 2), 0);
        due("dares", x.dares(), 0);
        x.ask(3, 9);
        due("said brings 5", x.said(0, 2), 5);
        due("dares", x.dares(), 1);
    }

    static void p47_justOne() {
        NeedsALoser x = oneDeal(51, 0);
        x.ask(2, 9);
        x.ask(3, 5);
        due("said", x.said(0, 2), 51 - 45);
        due("dares", x.dares(), 1);
        x.ask(3, 6);
        due("said", x.said(0, 2), 51 - 54);
        due("dares", x.dares(), 0);
        NeedsALoser y = oneDeal(46, 0);
        y.ask(2, 9);
        y.ask(3, 5);
        due("said brings 1", y.said(0, 2), 1);
        due("dares", y.dares(), 1);
    }

    static void p47_noneOfWhatIsGoodOrOfParties() {
        NeedsALoser x = oneDeal(99, 1, 0);
        x.ask(3, 0);
        due("3 alone", x.dares(), 1);
        x.ask(0, 2);
        due("2 and 3", x.dares(), 2);
        x.ask(2, 10);
        due("court 10", x.dares(), 0);
    }

    static void p47_noneAndAllPairs() {
        due("of nobody", of(0).dares(), 0);
        due("of no bargains", of(7).dares(), 0);
        NeedsALoser x = full(99, 0);
        x.ask(2, 0);
        due("all pairs of seven", x.dares(), 35);
        x.ask(3, 999);
        due("no fine is paid", x.dares(), 35);
    }

    static void p47_theFirstOfThePeopleAndTheLast() {
        NeedsALoser x = of(7);
        x.bargain(2, 3, 9, 0);
        x.ask(3, 0);
        for (int t = 0; t < 7; t++) {
            x.hurts(0, t, 1);
        }
        due("none", x.dares(), 0);
        due("deters", x.deters(), 0);
        x.hurts(0, 0, 0);
        due("by the first", x.dares(), 1);
        due("deters", x.deters(), 9);
        due("said", x.said(0, 0), 45);
        x.hurts(0, 0, 1);
        x.hurts(0, 6, -1);
        due("by the last", x.dares(), 1);
        due("deters", x.deters(), 10);
        due("said", x.said(0, 6), 50);
    }

    // ---- 48: deters ----

    static void p48_noneDaresAtAll() {
        due("of nobody", of(0).deters(), 0);
        due("of no bargains", of(7).deters(), 0);
        due("good by all", oneDeal(9, 1).deters(), 0);
        due("gains of 0", oneDeal(0, 0).deters(), 0);
        NeedsALoser x = oneDeal(0, 0);
        x.ask(2, 0);
        due("gains of 0, no court", x.deters(), 0);
    }

    static void p48_nothingIsLeftToBring() {
        NeedsALoser x = oneDeal(9, 8);
        x.ask(0, 99);
        due("1 is left", x.deters(), 1);
        x.hurts(0, 2, 9);
        due("0 is left", x.deters(), 0);
        x.hurts(0, 2, 10);
        due("-1 is left", x.deters(), 0);
        x.ask(2, 0);
        due("-1 is left, no court", x.deters(), 0);
    }

    static void p48_justEnoughAndRoundedUp() {
        NeedsALoser x = oneDeal(12, 0);
        x.ask(2, 6);
        // 4 times 12 is 48, 6 times 8.
        due("just enough", x.deters(), 8);
        x.ask(3, 8);
        due("none dares", x.dares(), 0);
        x.ask(3, 7);
        due("one dares", x.dares(), 1);
        x.ask(2, 7);
        // 3 times 12 is 36, 7 times 5 is 35.
        due("rounded up", x.deters(), 6);
    }

    static void p48_nineHundredAndNinetyNineAndOneMore() {
        NeedsALoser x = of(3);
        x.bargain(0, 1, 99, 0);
        x.ask(2, 1);
        // 9 times 111 is 999, 9 times 112 is 1008.
        x.hurts(0, 2, -12);
        due("999", x.deters(), 999);
        x.hurts(0, 2, -13);
        due("1008", x.deters(), NONE);
        due("not refused", x.status(12) + x.status(15), 0);
    }

    static void p48_noCourt() {
        NeedsALoser x = oneDeal(1, 0);
        x.ask(2, 0);
        due("no fine deters", x.deters(), NONE);
        x.ask(2, 1);
        due("court 1", x.deters(), 9);
        x.ask(2, 9);
        due("court 9", x.deters(), 1);
        x.ask(2, 10);
        due("court 10", x.deters(), 0);
    }

    static void p48_theFineItselfIsNothingToIt() {
        NeedsALoser x = oneDeal(12, 0);
        int first = x.deters();
        x.ask(3, 999);
        due("fine 999", x.deters(), first);
        due("fine as it was", x.status(7), 999);
        x.ask(3, 0);
        due("fine 0", x.deters(), first);
        due("fine as it was", x.status(7), 0);
    }

    static void p48_ofAllPairs() {
        NeedsALoser x = of(4);
        deal(x, 12, 0, -3);
        deal(x, 13, -1, 0);
        due("15 of BARGAIN 0 and 3", x.deters(), 15);
    }

    // ---- 49: under ----

    static void p49_theLeastAndTheGreatest() {
        NeedsALoser x = oneDeal(99, 1, 99);
        due("under 1", x.under(1), 98);
        due("under 2", x.under(2), 0);
        x.bargain(0, 1, 99, 1);
        x.hurts(1, 3, 99);
        due("under 99", x.under(99), 1);
        int[] none = {0, 100, -1, MIN, MAX};
        for (int least : none) {
            due("under " + least, x.under(least), -2);
        }
        due("status 12", x.status(12), 5);
    }

    static void p49_theLawStaysAsItIs() {
        NeedsALoser x = oneDeal(99, 1, 50);
        x.ask(0, 40);
        due("under 1", x.under(1), 98);
        due("LEAST", x.status(4), 40);
        due("best", x.best(), 49);
        due("under 40", x.under(40), 49);
        due("under 50", x.under(50), 49);
        due("under 51", x.under(51), 0);
    }

    static void p49_ofNobody() {
        due("of nobody", of(0).under(1), 0);
    }

    // ---- 50: bestLaw ----

    static void p50_ofSeveralTheLeast() {
        due("of nobody", of(0).bestLaw(), 1);
        due("all laws alike", oneDeal(99, 99).bestLaw(), 1);
        NeedsALoser x = oneDeal(99, 1, 20, 21);
        x.ask(0, 99);
        due("the least is the best", x.bestLaw(), 1);
        due("LEAST as it was", x.status(4), 99);
        due("only a law above 20 would do", oneDeal(0, 21, 30).bestLaw(), 1);
    }

    static void p50_noLawIsBetterThanTheLeast() {
        NeedsALoser x = of(5);
        deal(x, 40, 3, 12, 20);
        deal(x, 40, 4, 11, 21);
        x.ask(0, 12);
        int[] values = {37 + 29, 37 + 29, 37 + 29, 28 + 36};
        for (int l = 1; l <= 4; l++) {
            due("under " + l, x.under(l), values[l - 1]);
        }
        due("best law", x.bestLaw(), 1);
    }

    // ---- 51: hiding ----

    static void p51_aLossThatIsLeastAlready() {
        NeedsALoser x = oneDeal(9, 4, 6);
        x.ask(0, 4);
        due("hiding", x.hiding(0, 2), 0);
    }

    static void p51_aLossOneAboveAndOneBelow() {
        NeedsALoser x = oneDeal(9, 5);
        x.ask(0, 4);
        due("above becomes LEAST", x.hiding(0, 2), 1);
        x.ask(0, 6);
        due("below becomes LEAST", x.hiding(0, 2), 3);
        x.ask(0, 5);
        due("of LEAST", x.hiding(0, 2), 0);
    }

    static void p51_noMoreThanIsNeeded() {
        due("another is as good", oneDeal(9, 1, 5).hiding(0, 3), 0);
        NeedsALoser x = oneDeal(9, 5);
        x.ask(0, 9);
        due("a value of 0 brings nothing", x.hiding(0, 2), 0);
        x.ask(0, 99);
        due("a value below 0", x.hiding(0, 2), 0);
        x.ask(0, 8);
        due("a value of 1", x.hiding(0, 2), 1);
    }

    static void p51_ofAParty() {
        NeedsALoser x = oneDeal(9, 4);
        due("P", x.hiding(0, 0), -5);
        due("Q", x.hiding(0, 1), -5);
        due("status 15", x.status(15), 2);
    }

    static void p51_bargainsAndPeopleThatAreNone() {
        NeedsALoser x = oneDeal(9, 4);
        int[] noBargain = {-1, 1, MIN, MAX};
        for (int b : noBargain) {
            due("bargain " + b, x.hiding(b, 2), -2);
        }
        int[] nobody = {-1, 3, MIN, MAX};
        for (int t : nobody) {
            due("third " + t, x.hiding(0, t), -2);
        }
    }

    static void p51_theLossStaysAsItIs() {
        NeedsALoser x = oneDeal(9, 4, 0);
        due("hiding", x.hiding(0, 3), 3);
        due("loss", x.lossOf(0, 3), 0);
        due("hiding", x.hiding(0, 2), 3);
        due("loss", x.lossOf(0, 2), 4);
        due("best", x.best(), 5);
    }

    static void p51_theGreatestOfAll() {
        NeedsALoser x = of(3);
        x.bargain(0, 1, 99, 99);
        due("197", x.hiding(0, 2), 197);
    }
}
