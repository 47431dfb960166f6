import java.lang.reflect.InvocationTargetException;
import java.lang.reflect.Method;
import java.util.Arrays;
import java.util.Comparator;

/**
 * Promises 9 to 13, 17 to 21, 35 to 38, 54 to 58: for each sentence that names a boundary case a test
 * of its own, each method one.
 */
public final class TownEdgesTest {
    private static final int V_BAD = -1000002;
    private static final int V_STUCK = -1000005;
    private static final int MIN = Integer.MIN_VALUE;
    private static final int MAX = Integer.MAX_VALUE;
    private static String running = "";
    private static int wrong = 0;

    public static void main(String[] args) throws IllegalAccessException {
        Method[] methods = TownEdgesTest.class.getDeclaredMethods();
        Arrays.sort(methods, Comparator.comparing(Method::getName));
        for (Method method : methods) {
            if (method.getName().matches("p\\d\\d_\\w+")) {
                running = method.getName();
                try {
                    method.invoke(null);
                } catch (InvocationTargetException thrown) {
                    wrong++;
                    System.out.println(running + " threw " + thrown.getCause());
                }
            }
        }
        System.out.println(wrong == 0 ? "all answers are as due" : wrong + " answers are not as due");
        if (wrong != 0) {
            System.exit(1);
        }
    }

    private static void due(String call, long got, long want) {
        if (got != want) {
            wrong++;
            System.out.println(running + ": " + call + " answered " + got + ", due is " + want);
        }
    }

    private static NeedsALoser of(int people) {
        NeedsALoser x = new NeedsALoser();
        for (int i = 0; i < people; i++) {
            x.one();
        }
        return x;
    }

    /** PEOPLE, and BARGAINS of 0 and 1 with GAINS of 1 and 2. */
    private static NeedsALoser of(int people, int bargains) {
        NeedsALoser x = of(people);
        for (int b = 0; b < bargains; b++) {
            x.bargain(0, 1, 1, 2);
        }
        return x;
    }

    /** The WEEK of these thirds comes to be in truth. */
    private static void make(NeedsALoser x, int... thirds) {
        x.row(7, 2, thirds.length);
        int made = 0;
        for (int b = 0; b < thirds.length; b++) {
            x.set(7, b, thirds[b]);
            made += thirds[b] < 0 ? 0 : 1;
        }
        due("makes", x.makes(7), made);
    }

    // ---- 9: one ----

    static void p09_numbersFromZeroOn() {
        NeedsALoser x = new NeedsALoser();
        for (int i = 0; i < 7; i++) {
            due("one", x.one(), i);
            due("status 0", x.status(0), i + 1);
        }
    }

    static void p09_sevenAtMost() {
        NeedsALoser x = of(7);
        due("the eighth", x.one(), -6);
        due("the eighth again", x.one(), -6);
        due("status 0", x.status(0), 7);
        due("status 16", x.status(16), 2);
        due("the last", x.standing(6), 0);
        due("none behind it", x.standing(7), V_BAD);
    }

    static void p09_standingAndTimesAreZeroAtFirst() {
        NeedsALoser x = of(3, 1);
        x.hurts(0, 2, 5);
        make(x, 2);
        due("one", x.one(), 3);
        due("standing", x.standing(3), 0);
        due("named", x.named(3), 0);
    }

    static void p09_oneMoreLosesNothingByTheBargainsThereAre() {
        NeedsALoser x = of(2, 7);
        x.one();
        for (int b = 0; b < 7; b++) {
            due("loss", x.lossOf(b, 2), 0);
            due("good", x.good(b), 0);
        }
    }

    // ---- 10: bargain ----

    static void p10_numbersFromZeroOnAndSevenAtMost() {
        NeedsALoser x = of(2);
        for (int b = 0; b < 7; b++) {
            due("bargain", x.bargain(0, 1, 0, 0), b);
        }
        due("the eighth", x.bargain(0, 1, 0, 0), -6);
        due("status 1", x.status(1), 7);
        due("status 16", x.status(16), 1);
        due("the last", x.bargainOf(6, 1), 1);
        due("none behind it", x.bargainOf(7, 1), -2);
    }

    static void p10_badAheadOfFull() {
        NeedsALoser x = of(2, 7);
        due("p", x.bargain(2, 1, 0, 0), -2);
        due("q", x.bargain(0, 2, 0, 0), -2);
        due("unlike", x.bargain(1, 1, 0, 0), -2);
        due("gain of P", x.bargain(0, 1, 100, 0), -2);
        due("gain of Q", x.bargain(0, 1, 0, -1), -2);
        due("full", x.bargain(0, 1, 0, 0), -6);
        due("status 12", x.status(12), 5);
    }

    static void p10_theFirstAndTheLastOfThePeopleAsParties() {
        NeedsALoser x = of(7);
        due("0 and 6", x.bargain(0, 6, 3, 4), 0);
        due("6 and 0", x.bargain(6, 0, 5, 6), 1);
        due("P", x.bargainOf(0, 0), 0);
        due("Q", x.bargainOf(0, 1), 6);
        due("P", x.bargainOf(1, 0), 6);
        due("Q", x.bargainOf(1, 1), 0);
    }

    static void p10_partiesThatAreNone() {
        NeedsALoser x = of(3);
        int[] none = {-1, 3, MIN, MAX};
        for (int t : none) {
            due("p " + t, x.bargain(t, 0, 1, 1), -2);
            due("q " + t, x.bargain(0, t, 1, 1), -2);
        }
        due("status 1", x.status(1), 0);
    }

    static void p10_nobodyOrOneAloneCanHaveNone() {
        due("nobody", of(0).bargain(0, 0, 1, 1), -2);
        due("nobody else", of(0).bargain(0, 1, 1, 1), -2);
        due("one alone", of(1).bargain(0, 0, 1, 1), -2);
        due("one and none", of(1).bargain(0, 1, 1, 1), -2);
        due("two", of(2).bargain(0, 1, 1, 1), 0);
    }

    static void p10_partiesAreUnlike() {
        NeedsALoser x = of(3);
        for (int t = 0; t < 3; t++) {
            due("with oneself", x.bargain(t, t, 1, 1), -2);
        }
    }

    static void p10_theLeastAndTheGreatestGains() {
        NeedsALoser x = of(2);
        due("0 and 99", x.bargain(0, 1, 0, 99), 0);
        due("99 and 0", x.bargain(0, 1, 99, 0), 1);
        int[] none = {-1, 100, MIN, MAX};
        for (int gain : none) {
            due("of P " + gain, x.bargain(0, 1, gain, 1), -2);
            due("of Q " + gain, x.bargain(0, 1, 1, gain), -2);
        }
        due("of P", x.bargainOf(0, 2), 0);
        due("of Q", x.bargainOf(0, 3), 99);
        due("of P", x.bargainOf(1, 2), 99);
        due("of Q", x.bargainOf(1, 3), 0);
        due("status 1", x.status(1), 2);
    }

    static void p10_itBarsNoneAndHurtsNobodyAtFirst() {
        NeedsALoser x = of(7, 7);
        for (int b = 0; b < 7; b++) {
            due("bars", x.bargainOf(b, 4), 0);
            due("good", x.good(b), 0);
            for (int t = 0; t < 7; t++) {
                due("loss", x.lossOf(b, t), 0);
            }
        }
    }

    static void p10_twoOfTheSameParties() {
        NeedsALoser x = of(2);
        due("one", x.bargain(0, 1, 1, 1), 0);
        due("another", x.bargain(0, 1, 1, 1), 1);
        due("round", x.bargain(1, 0, 1, 1), 2);
    }

    // ---- 11: hurts ----

    static void p11_theLeastAndTheGreatestLoss() {
        NeedsALoser x = of(3, 1);
        due("-99", x.hurts(0, 2, -99), 1);
        due("it is -99", x.lossOf(0, 2), -99);
        due("99", x.hurts(0, 2, 99), 1);
        due("it is 99", x.lossOf(0, 2), 99);
        int[] none = {-100, 100, MIN, MAX};
        for (int v : none) {
            due("hurts " + v, x.hurts(0, 2, v), -2);
        }
        due("it is 99 still", x.lossOf(0, 2), 99);
        due("0", x.hurts(0, 2, 0), 1);
        due("it is 0", x.lossOf(0, 2), 0);
    }

    static void p11_theFirstAndTheLastOfEach() {
        NeedsALoser x = of(7, 7);
        due("0 0", x.hurts(0, 0, 1), 1);
        due("0 6", x.hurts(0, 6, 2), 1);
        due("6 0", x.hurts(6, 0, 3), 1);
        due("6 6", x.hurts(6, 6, 4), 1);
        for (int b = 0; b < 7; b++) {
            for (int t = 0; t < 7; t++) {
                int due = (b == 0 || b == 6) && (t == 0 || t == 6) ? 1 + b / 3 + t / 6 : 0;
                due("loss of " + b + " to " + t, x.lossOf(b, t), due);
            }
        }
    }

    static void p11_bargainsAndPeopleThatAreNone() {
        NeedsALoser x = of(3, 2);
        int[] noBargain = {-1, 2, MIN, MAX};
        for (int b : noBargain) {
            due("bargain " + b, x.hurts(b, 2, 1), -2);
        }
        int[] nobody = {-1, 3, MIN, MAX};
        for (int t : nobody) {
            due("one " + t, x.hurts(1, t, 1), -2);
        }
        due("no bargains", of(3).hurts(0, 0, 1), -2);
        due("no people", of(0).hurts(0, 0, 1), -2);
    }

    static void p11_thatOfAPartyIsToldAgainAndCountsForNothing() {
        NeedsALoser x = of(3, 1);
        due("of P", x.hurts(0, 0, 99), 1);
        due("of Q", x.hurts(0, 1, -99), 1);
        due("told of P", x.lossOf(0, 0), 99);
        due("told of Q", x.lossOf(0, 1), -99);
        due("good", x.good(0), 0);
        due("best", x.best(), 0);
        due("never", x.never(), 1);
        due("harm", x.harm(0), 0);
        x.hurts(0, 2, 1);
        due("good by another", x.good(0), 4);
        make(x, 2);
        due("standing of P", x.standing(0), 1);
        due("standing of Q", x.standing(1), 2);
    }

    // ---- 12: bars ----

    static void p12_bothWaysRound() {
        NeedsALoser x = of(2, 7);
        due("0 and 6", x.bars(0, 6, true), 1);
        due("of 0", x.bargainOf(0, 4), 64);
        due("of 6", x.bargainOf(6, 4), 1);
        due("6 and 0 again", x.bars(6, 0, true), 0);
        due("no more", x.bars(6, 0, false), 1);
        due("of 0", x.bargainOf(0, 4), 0);
        due("of 6", x.bargainOf(6, 4), 0);
    }

    static void p12_zeroIfItWasSo() {
        NeedsALoser x = of(2, 2);
        due("not so at first", x.bars(0, 1, false), 0);
        due("so", x.bars(0, 1, true), 1);
        due("so again", x.bars(0, 1, true), 0);
        due("not so", x.bars(0, 1, false), 1);
        due("not so again", x.bars(0, 1, false), 0);
        due("status 12", x.status(12), 0);
    }

    static void p12_withItself() {
        NeedsALoser x = of(2, 3);
        for (int b = 0; b < 3; b++) {
            due("true", x.bars(b, b, true), -2);
            due("false", x.bars(b, b, false), -2);
            due("bars", x.bargainOf(b, 4), 0);
        }
    }

    static void p12_bargainsThatAreNone() {
        NeedsALoser x = of(2, 3);
        int[] none = {-1, 3, MIN, MAX};
        for (int b : none) {
            due("bargain " + b, x.bars(b, 0, true), -2);
            due("other " + b, x.bars(0, b, true), -2);
            due("both " + b, x.bars(b, b, false), -2);
        }
        due("of no bargains", of(2).bars(0, 1, true), -2);
    }

    static void p12_allBarAllOthers() {
        NeedsALoser x = of(2, 7);
        for (int b = 0; b < 7; b++) {
            for (int c = b + 1; c < 7; c++) {
                due("bars", x.bars(b, c, true), 1);
            }
        }
        for (int b = 0; b < 7; b++) {
            due("of " + b, x.bargainOf(b, 4), 127 - (1 << b));
        }
        x.bars(3, 5, false);
        due("of 3", x.bargainOf(3, 4), 127 - 8 - 32);
        due("of 5", x.bargainOf(5, 4), 127 - 8 - 32);
        due("of 4", x.bargainOf(4, 4), 127 - 16);
    }

    // ---- 13: ask ----

    static void p13_least() {
        law(0, 1, 1, 99);
    }

    static void p13_once() {
        law(1, 1, 0, 1);
    }

    static void p13_court() {
        law(2, 5, 0, 10);
    }

    static void p13_fine() {
        law(3, 50, 0, 999);
    }

    private static void law(int what, int first, int least, int greatest) {
        NeedsALoser x = new NeedsALoser();
        due("at first", x.ask(what, greatest), first);
        due("the greatest", x.status(4 + what), greatest);
        int[] none = {least - 1, greatest + 1, MIN, MAX};
        for (int v : none) {
            due("ask " + v, x.ask(what, v), -2);
        }
        due("the least", x.ask(what, least), greatest);
        due("it is the least", x.status(4 + what), least);
        due("the same again", x.ask(what, least), least);
        int[] laws = {1, 1, 5, 50};
        for (int other = 0; other < 4; other++) {
            due("status of " + other, x.status(4 + other), other == what ? least : laws[other]);
        }
    }

    static void p13_noOtherLaw() {
        NeedsALoser x = new NeedsALoser();
        int[] none = {-1, 4, 5, MIN, MAX};
        for (int what : none) {
            due("ask of " + what, x.ask(what, 1), -2);
        }
        due("status 12", x.status(12), 5);
    }

    // ---- 17: bargainOf ----

    static void p17_theFirstAndTheLastOfWhatIsTold() {
        NeedsALoser x = of(3);
        x.bargain(2, 1, 30, 40);
        x.bargain(0, 1, 1, 1);
        x.bars(0, 1, true);
        int[] due = {2, 1, 30, 40, 2};
        for (int what = 0; what < 5; what++) {
            due("what " + what, x.bargainOf(0, what), due[what]);
        }
        int[] none = {-1, 5, MIN, MAX};
        for (int what : none) {
            due("what " + what, x.bargainOf(0, what), -2);
        }
    }

    static void p17_bargainsThatAreNone() {
        NeedsALoser x = of(2, 2);
        due("the last", x.bargainOf(1, 3), 2);
        int[] none = {-1, 2, MIN, MAX};
        for (int b : none) {
            due("bargain " + b, x.bargainOf(b, 0), -2);
        }
        due("of no bargains", of(2).bargainOf(0, 0), -2);
    }

    // ---- 18: lossOf ----

    static void p18_bargainsAndPeopleThatAreNone() {
        NeedsALoser x = of(3, 2);
        due("the last of both", x.lossOf(1, 2), 0);
        int[] noBargain = {-1, 2, MIN, MAX};
        for (int b : noBargain) {
            due("bargain " + b, x.lossOf(b, 0), V_BAD);
        }
        int[] nobody = {-1, 3, MIN, MAX};
        for (int t : nobody) {
            due("one " + t, x.lossOf(0, t), V_BAD);
        }
        due("status 12", x.status(12), 8);
    }

    // ---- 19: standing ----

    static void p19_peopleWhoAreNone() {
        NeedsALoser x = of(3);
        due("the last", x.standing(2), 0);
        int[] nobody = {-1, 3, MIN, MAX};
        for (int t : nobody) {
            due("one " + t, x.standing(t), V_BAD);
        }
        due("of nobody", of(0).standing(0), V_BAD);
        due("status 12", x.status(12), 4);
    }

    static void p19_itMayBeBelowZero() {
        NeedsALoser x = of(3, 1);
        x.hurts(0, 2, 99);
        make(x, 2);
        due("standing", x.standing(2), -99);
        make(x, 2);
        due("standing", x.standing(2), -198);
    }

    static void p19_gainsAndLossesOfOneWeekComeTogether() {
        // 0 gains by BARGAIN 0 and loses by BARGAIN 1; nobody else of these loses.
        NeedsALoser x = of(4);
        x.bargain(0, 1, 7, 8);
        x.bargain(2, 3, 20, 30);
        x.hurts(0, 2, 5);
        x.hurts(1, 0, 9);
        make(x, 2, 0);
        due("0", x.standing(0), 7 - 9);
        due("1", x.standing(1), 8);
        due("2", x.standing(2), 20 - 5);
        due("3", x.standing(3), 30);
    }

    static void p19_whatIsNotMadeChangesNothing() {
        NeedsALoser x = of(3, 2);
        x.hurts(0, 2, 5);
        x.hurts(1, 2, 6);
        make(x, -1, 2);
        due("the third", x.standing(2), -6);
        due("P", x.standing(0), 1);
        due("Q", x.standing(1), 2);
    }

    // ---- 20: good ----

    static void p20_aLossThatIsLeastAndOneBelow() {
        NeedsALoser x = of(4, 1);
        x.hurts(0, 2, 6);
        x.hurts(0, 3, 7);
        x.ask(0, 6);
        due("least 6", x.good(0), 12);
        x.ask(0, 7);
        due("least 7", x.good(0), 8);
        x.ask(0, 8);
        due("least 8", x.good(0), 0);
    }

    static void p20_theLeastLawAndTheGreatest() {
        NeedsALoser x = of(5, 1);
        x.hurts(0, 3, 1);
        x.hurts(0, 4, 99);
        due("a loss of 0", x.good(0) & 4, 0);
        due("a loss of 1", x.good(0), 24);
        x.ask(0, 99);
        due("a loss of 99", x.good(0), 16);
        x.hurts(0, 4, 98);
        due("a loss of 98", x.good(0), 0);
    }

    static void p20_partiesAreNoThirds() {
        NeedsALoser x = of(4);
        x.bargain(3, 1, 0, 0);
        for (int t = 0; t < 4; t++) {
            x.hurts(0, t, 50);
        }
        due("good", x.good(0), 5);
    }

    static void p20_allButThePartiesOfSeven() {
        NeedsALoser x = of(7, 1);
        for (int t = 0; t < 7; t++) {
            x.hurts(0, t, 1);
        }
        due("good", x.good(0), 124);
    }

    static void p20_inAFullTown() {
        NeedsALoser x = of(7);
        for (int b = 0; b < 7; b++) {
            x.bargain(b, (b + 1) % 7, 0, 0);
            for (int t = 0; t < 7; t++) {
                x.hurts(b, t, 9);
            }
        }
        for (int b = 0; b < 7; b++) {
            due("good " + b, x.good(b), 127 - (1 << b) - (1 << (b + 1) % 7));
        }
        for (int t = 0; t < 7; t++) {
            due("alone " + t, x.alone(t), 0);
            due("party " + t, x.party(t), 1 << t | 1 << (t + 6) % 7);
        }
    }

    static void p20_bargainsThatAreNone() {
        NeedsALoser x = of(2, 2);
        due("the last", x.good(1), 0);
        int[] none = {-1, 2, MIN, MAX};
        for (int b : none) {
            due("good " + b, x.good(b), -2);
        }
    }

    // ---- 21: value ----

    static void p21_theGreatestAndTheLeast() {
        NeedsALoser x = of(3);
        x.bargain(0, 1, 99, 99);
        x.bargain(0, 1, 0, 0);
        x.hurts(0, 2, 1);
        x.hurts(1, 2, 99);
        due("the greatest", x.value(0, 2), 197);
        due("the least", x.value(1, 2), -99);
    }

    static void p21_notGoodByThem() {
        NeedsALoser x = of(3, 1);
        due("a loss of 0", x.value(0, 2), V_STUCK);
        x.hurts(0, 2, 4);
        x.ask(0, 5);
        due("below LEAST", x.value(0, 2), V_STUCK);
        x.ask(0, 4);
        due("LEAST", x.value(0, 2), -1);
        due("status 15", x.status(15), 2);
    }

    static void p21_byAParty() {
        NeedsALoser x = of(3, 1);
        x.hurts(0, 0, 9);
        x.hurts(0, 1, 9);
        due("P", x.value(0, 0), V_STUCK);
        due("Q", x.value(0, 1), V_STUCK);
    }

    static void p21_bargainsAndPeopleThatAreNone() {
        NeedsALoser x = of(3, 1);
        int[] noBargain = {-1, 1, MIN, MAX};
        for (int b : noBargain) {
            due("bargain " + b, x.value(b, 2), V_BAD);
        }
        int[] nobody = {-1, 3, MIN, MAX};
        for (int t : nobody) {
            due("third " + t, x.value(0, t), V_BAD);
        }
        due("status 12", x.status(12), 8);
        due("status 15", x.status(15), 0);
    }

    // ---- 35: richest ----

    static void p35_nobody() {
        NeedsALoser x = of(0);
        due("richest", x.richest(), -5);
        due("status 15", x.status(15), 1);
    }

    static void p35_ofSeveralTheFirst() {
        due("one alone", of(1).richest(), 0);
        due("all alike", of(7).richest(), 0);
        NeedsALoser x = of(4);
        x.bargain(2, 3, 5, 5);
        x.hurts(0, 0, 1);
        make(x, 0);
        due("2 and 3 alike", x.richest(), 2);
    }

    static void p35_theLastAndOnesBelowZero() {
        NeedsALoser x = of(4);
        x.bargain(0, 1, 0, 0);
        x.hurts(0, 2, 1);
        x.hurts(0, 3, 1);
        x.ask(1, 0);
        x.bargain(2, 3, 0, 0);
        x.hurts(1, 0, 2);
        x.hurts(1, 1, 3);
        make(x, 2, 0);
        make(x, 2, 1);
        make(x, 3, -1);
        // STANDINGS: -2, -3, -2, -1.
        due("the last, below 0", x.richest(), 3);
    }

    // ---- 36: alone ----

    static void p36_byOneAndByNobodyElse() {
        NeedsALoser x = of(4, 3);
        x.hurts(0, 2, 1);
        x.hurts(1, 2, 1);
        x.hurts(1, 3, 1);
        x.hurts(2, 2, 5);
        x.hurts(2, 3, 4);
        due("alone 2", x.alone(2), 1);
        due("alone 3", x.alone(3), 0);
        x.ask(0, 5);
        due("by another law", x.alone(2), 4);
        x.hurts(2, 0, 99);
        due("a party is none", x.alone(2), 4);
        due("a party", x.alone(0), 0);
    }

    static void p36_allSevenAndNone() {
        NeedsALoser x = of(7, 7);
        for (int b = 0; b < 7; b++) {
            x.hurts(b, 6, 1);
        }
        due("all", x.alone(6), 127);
        due("of no bargains", of(1).alone(0), 0);
    }

    static void p36_peopleWhoAreNone() {
        NeedsALoser x = of(3, 1);
        due("the last", x.alone(2), 0);
        int[] nobody = {-1, 3, MIN, MAX};
        for (int t : nobody) {
            due("alone " + t, x.alone(t), -2);
        }
    }

    // ---- 37: party ----

    static void p37_asPAndAsQ() {
        NeedsALoser x = of(4);
        x.bargain(0, 1, 0, 0);
        x.bargain(2, 0, 0, 0);
        x.bargain(1, 2, 0, 0);
        due("0", x.party(0), 3);
        due("1", x.party(1), 5);
        due("2", x.party(2), 6);
        due("3", x.party(3), 0);
    }

    static void p37_allSevenAndNone() {
        due("all", of(2, 7).party(1), 127);
        due("of no bargains", of(1).party(0), 0);
    }

    static void p37_peopleWhoAreNone() {
        NeedsALoser x = of(3, 1);
        due("the last", x.party(2), 0);
        int[] nobody = {-1, 3, MIN, MAX};
        for (int t : nobody) {
            due("party " + t, x.party(t), -2);
        }
    }

    // ---- 38: fair ----

    static void p38_nobody() {
        NeedsALoser x = of(0);
        due("fair", x.fair(), -5);
        due("status 15", x.status(15), 1);
    }

    static void p38_oneAloneAndNoWeekYet() {
        due("one alone", of(1).fair(), 0);
        due("seven", of(7).fair(), 0);
    }

    static void p38_mostLessLeast() {
        NeedsALoser x = of(4);
        x.bargain(0, 1, 0, 0);
        x.bargain(2, 3, 0, 0);
        x.hurts(0, 2, 1);
        x.hurts(0, 3, 1);
        x.hurts(1, 0, 1);
        x.hurts(1, 1, 1);
        make(x, 2, 0);
        due("named 1, 0, 1, 0", x.fair(), 1);
        make(x, 3, 1);
        due("each once", x.fair(), 0);
        make(x, 3, 0);
        make(x, 3, 0);
        due("named 3, 1, 1, 3", x.fair(), 2);
        x.one();
        due("one more, never named", x.fair(), 3);
    }

    // ---- 54: named ----

    static void p54_onlyInTruth() {
        NeedsALoser x = of(3, 1);
        x.hurts(0, 2, 1);
        x.rule(0, 1, 0);
        x.row(1, 0, 1);
        x.set(1, 0, 2);
        due("by", x.by(0, 1), 1);
        due("told", x.told(1, 1), 1);
        due("best", x.best(), 2);
        due("named", x.named(2), 0);
        due("lives", x.lives(0), 1);
        due("named", x.named(2), 1);
        due("makes", x.makes(1), 1);
        due("named", x.named(2), 2);
        due("week", x.week(), 1);
        due("named", x.named(2), 3);
        due("weeks", x.weeks(30), 30);
        due("named", x.named(2), 33);
    }

    static void p54_twiceInOneWeek() {
        NeedsALoser x = of(3, 2);
        x.hurts(0, 2, 1);
        x.hurts(1, 2, 1);
        x.ask(1, 0);
        make(x, 2, 2);
        due("named", x.named(2), 2);
        due("fair", x.fair(), 2);
    }

    static void p54_peopleWhoAreNone() {
        NeedsALoser x = of(3);
        due("the last", x.named(2), 0);
        int[] nobody = {-1, 3, MIN, MAX};
        for (int t : nobody) {
            due("named " + t, x.named(t), -2);
        }
        due("of nobody", of(0).named(0), -2);
    }

    // ---- 55: seed ----

    static void p55_anyIntIsTaken() {
        NeedsALoser x = new NeedsALoser();
        due("at first", x.seed(MIN), 1);
        due("the least", x.seed(MAX), MIN);
        due("the greatest", x.seed(0), MAX);
        due("0", x.seed(-1), 0);
        due("status 9", x.status(9), -1);
        due("-1", x.seed(-2), -1);
        due("none refused", x.status(12), 0);
    }

    // ---- 56, 57: image, back ----

    static void p56_aNewTownIsKeptToo() {
        NeedsALoser x = new NeedsALoser();
        due("image", x.image(), 1);
        x.one();
        x.one();
        x.one();
        x.bargain(0, 1, 1, 2);
        x.hurts(0, 2, 3);
        x.ask(0, 9);
        x.ask(1, 0);
        x.ask(2, 9);
        x.ask(3, 9);
        x.seed(9);
        x.week();
        due("back", x.back(), 1);
        int[] due = {0, 0, 0, 0, 1, 1, 5, 50, 0, 1, 0};
        for (int what = 0; what < due.length; what++) {
            due("status " + what, x.status(what), due[what]);
        }
        due("numbers begin anew", x.one(), 0);
        due("and so do bargains", x.bargain(0, x.one(), 5, 5), 0);
        due("it hurts nobody yet", x.lossOf(0, x.one()), 0);
    }

    static void p56_everyPartIsKept() {
        NeedsALoser x = of(3, 2);
        x.hurts(0, 2, 4);
        x.bars(0, 1, true);
        x.ask(0, 2);
        x.ask(1, 0);
        x.ask(2, 3);
        x.ask(3, 4);
        make(x, 2, -1);
        x.seed(55);
        x.image();
        x.one();
        x.bargain(0, 1, 0, 0);
        x.hurts(0, 2, 5);
        x.hurts(1, 0, -5);
        x.bars(0, 1, false);
        x.ask(0, 1);
        x.ask(1, 1);
        x.ask(2, 1);
        x.ask(3, 1);
        make(x, 2, -1, -1);
        x.seed(66);
        due("back", x.back(), 1);
        int[] due = {3, 2, 1, 1, 2, 0, 3, 4, 0, 55};
        for (int what = 0; what < due.length; what++) {
            due("status " + what, x.status(what), due[what]);
        }
        due("loss", x.lossOf(0, 2), 4);
        due("loss of a party", x.lossOf(1, 0), 0);
        due("bars", x.bargainOf(0, 4), 2);
        due("bars", x.bargainOf(1, 4), 1);
        due("named", x.named(2), 1);
        int[] standings = {1, 2, -4};
        for (int t = 0; t < 3; t++) {
            due("standing " + t, x.standing(t), standings[t]);
        }
    }

    static void p56_theTapeIsNotKept() {
        NeedsALoser x = new NeedsALoser();
        x.feed('l');
        x.image();
        x.feed('a');
        x.feed('w');
        x.back();
        due("status 8", x.status(8), 3);
        x.feed('9');
        due("town", x.town(), 1);
        due("LEAST", x.status(4), 9);
        x.back();
        due("empty then too", x.status(8), 0);
    }

    static void p56_shelvesAreNotKept() {
        NeedsALoser x = new NeedsALoser();
        x.row(0, 2, 1);
        x.set(0, 0, 5);
        x.image();
        x.set(0, 0, 6);
        x.rule(1, 4, 7);
        x.back();
        due("element", x.element(0, 0), 6);
        due("holds", x.holds(1), 14);
        due("status 10", x.status(10), 2);
    }

    static void p56_refusalsAreNotKept() {
        NeedsALoser x = new NeedsALoser();
        x.good(0);
        x.image();
        x.good(0);
        x.set(0, 0, 0);
        x.back();
        due("status 12", x.status(12), 2);
        due("status 14", x.status(14), 1);
    }

    static void p56_theNewestIsKept() {
        NeedsALoser x = new NeedsALoser();
        x.image();
        x.one();
        x.image();
        x.one();
        x.back();
        due("status 0", x.status(0), 1);
    }

    static void p57_nothingWasKept() {
        NeedsALoser x = of(3);
        due("back", x.back(), -5);
        due("people stay", x.status(0), 3);
        due("status 15", x.status(15), 1);
    }

    static void p57_backAsOftenAsWanted() {
        NeedsALoser x = of(2);
        x.image();
        for (int i = 0; i < 3; i++) {
            due("one", x.one(), 2);
            due("back", x.back(), 1);
            due("status 0", x.status(0), 2);
        }
        due("with no change between", x.back(), 1);
        due("status 0", x.status(0), 2);
    }

    static void p57_whatIsKeptIsNotTouchedByWhatComesAfter() {
        NeedsALoser x = of(3, 1);
        x.image();
        x.hurts(0, 2, 9);
        x.back();
        x.hurts(0, 2, 8);
        make(x, 2);
        x.back();
        due("loss", x.lossOf(0, 2), 0);
        due("standing", x.standing(2), 0);
        due("named", x.named(2), 0);
        due("weeks", x.status(2), 0);
    }

    static void p57_fromFullTownsAndBack() {
        NeedsALoser x = of(7, 7);
        for (int b = 0; b < 7; b++) {
            x.hurts(b, 6, 10 + b);
        }
        x.image();
        for (int b = 0; b < 7; b++) {
            x.hurts(b, 6, -b);
        }
        x.back();
        for (int b = 0; b < 7; b++) {
            due("loss", x.lossOf(b, 6), 10 + b);
        }
        due("one", x.one(), -6);
        due("bargain", x.bargain(0, 1, 1, 1), -6);
    }

    static void p57_whatIsAskedForIsThatOfTheTownThereIsAgain() {
        NeedsALoser x = of(4);
        x.bargain(0, 1, 9, 0);
        x.hurts(0, 2, 4);
        x.image();
        for (int i = 0; i < 3; i++) {
            x.one();
        }
        for (int b = 1; b < 7; b++) {
            x.bargain(5, 6, 99, 99);
            x.hurts(b, b - 1, 50 + b);
        }
        x.ask(1, 0);
        due("free of seven", x.free(), 9 + 6 * 198);
        // 0 to 4 lose 51 to 55; 5, a PARTY, is no third.
        due("best of six", x.best(), 5 + 5 * 198 - 51 - 52 - 53 - 54 - 55);
        due("fewest", x.fewest(), 31);
        due("harm", x.harm(2), 4 + 53);
        due("rings", x.rings(), 0);
        x.back();
        due("free of one", x.free(), 9);
        due("best of one", x.best(), 5);
        due("bestOf", x.bestOf(0), 2);
        due("fewest", x.fewest(), 4);
        due("harm", x.harm(2), 4);
        due("worst", x.worst(), 2);
        due("hated", x.hated(), 2);
        due("never", x.never(), 0);
        due("dares", x.dares(), 0);
        x.ask(1, 0);
        due("harm", x.harm(2), 4);
        due("free of one", x.free(), 9);
        due("week", x.week(), 1);
    }

    // ---- 58: status ----

    static void p58_noOtherWhatAndNoneRefused() {
        NeedsALoser x = new NeedsALoser();
        int[] none = {-1, 11, 17, 18, MIN, MAX};
        for (int what : none) {
            due("status " + what, x.status(what), -1);
        }
        for (int what = 12; what <= 16; what++) {
            due("status " + what, x.status(what), 0);
        }
    }

    static void p58_eachRefusalIsCountedByItself() {
        NeedsALoser x = new NeedsALoser();
        due("BAD", x.good(0), -2);
        x.rule(0, 1, 0);
        for (int i = 0; i < 2; i++) {
            due("OTHER", x.set(0, 0, 0), -3);
        }
        for (int i = 0; i < 3; i++) {
            due("NOTHING", x.set(1, 0, 0), -4);
        }
        for (int i = 0; i < 4; i++) {
            due("STUCK", x.richest(), -5);
        }
        for (int i = 0; i < 12; i++) {
            x.one();
        }
        for (int i = 0; i < 5; i++) {
            due("status " + (12 + i), x.status(12 + i), i + 1);
        }
    }

    static void p58_refusalsBelowAMillionAreCountedToo() {
        NeedsALoser x = of(3, 1);
        due("BAD", x.standing(3), V_BAD);
        x.row(0, 0, 0);
        due("OTHER", x.by(0, 0), -1000003);
        due("NOTHING", x.by(1, 0), -1000004);
        due("STUCK", x.value(0, 2), V_STUCK);
        int[] due = {1, 1, 1, 1, 0};
        for (int i = 0; i < 5; i++) {
            due("status " + (12 + i), x.status(12 + i), due[i]);
        }
    }

    static void p58_answersThatLookLikeRefusalsAreNotCounted() {
        // A LOSS of -2, a STANDING of -5, a VALUE of -6, NONE.
        NeedsALoser x = of(3);
        x.bargain(0, 1, 0, 0);
        x.hurts(0, 2, -2);
        due("loss", x.lossOf(0, 2), -2);
        x.hurts(0, 2, 5);
        make(x, 2);
        due("standing", x.standing(2), -5);
        x.hurts(0, 2, 6);
        due("value", x.value(0, 2), -6);
        due("bestOf", x.bestOf(0), -1);
        x.seed(-3);
        due("seed", x.seed(-4), -3);
        due("hiding", x.hiding(0, 2), 0);
        for (int what = 12; what <= 16; what++) {
            due("status " + what, x.status(what), 0);
        }
    }

    static void p58_weeksAndWhatWasMadeInThem() {
        NeedsALoser x = of(3, 2);
        x.hurts(0, 2, 1);
        x.hurts(1, 2, 1);
        x.ask(1, 0);
        make(x, 2, 2);
        due("one week", x.status(2), 1);
        due("two made", x.status(3), 2);
        x.weeks(30);
        due("31 weeks", x.status(2), 31);
        due("62 made", x.status(3), 62);
        x.makes(0);
        x.weeks(0);
        due("a refused one isn't gone by", x.status(2), 31);
    }

    static void p58_allShelvesHoldSomething() {
        NeedsALoser x = new NeedsALoser();
        for (int s = 0; s < 8; s++) {
            due("shelves", x.status(10), s);
            if (s % 2 == 0) {
                x.row(s, 0, 0);
            } else {
                x.rule(s, 1, 0);
            }
        }
        due("shelves", x.status(10), 8);
        x.row(0, 0, 5);
        due("no more", x.status(10), 8);
    }
}
