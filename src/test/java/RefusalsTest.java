import java.util.ArrayList;
import java.util.List;

/**
 * Every refusal of every call, in the order in which the document has them: a call that several fit
 * answers the first. And what a refused call leaves as it was: all but how many refusals there were.
 */
public final class RefusalsTest {
    private static final int BAD = -2;
    private static final int OTHER = -3;
    private static final int NOTHING = -4;
    private static final int STUCK = -5;
    private static final int FULL = -6;
    private static final int BELOW = -1000000;
    private static final int MIN = Integer.MIN_VALUE;
    private static final int MAX = Integer.MAX_VALUE;
    /** Of the town's SHELVES these hold a ROW that can be, one that can't, a short one, RULES, NOTHING. */
    private static final int CAN = 0;
    private static final int CANNOT = 1;
    private static final int SHORT = 2;
    private static final int LONGS = 3;
    private static final int MILD = 4;
    private static final int FOE = 5;
    private static final int EMPTY = 6;
    private static int wrong = 0;

    private interface Call {
        long on(NeedsALoser x);
    }

    private interface Maker {
        NeedsALoser make();
    }

    public static void main(String[] args) {
        shelves();
        building();
        looks();
        rulesAndTold();
        truth();
        best();
        court();
        nobody();
        noBargains();
        full();
        System.out.println(wrong == 0 ? "all is refused as due" : wrong + " answers are not as due");
        if (wrong != 0) {
            System.exit(1);
        }
    }

    // ---- the towns ----

    private static NeedsALoser empty() {
        NeedsALoser x = new NeedsALoser();
        fillShelves(x);
        return x;
    }

    private static NeedsALoser people() {
        NeedsALoser x = new NeedsALoser();
        for (int i = 0; i < 4; i++) {
            x.one();
        }
        fillShelves(x);
        return x;
    }

    /** Four PEOPLE, three BARGAINS, a WEEK gone by, something kept that is no more so, half a text. */
    private static NeedsALoser town() {
        NeedsALoser x = people();
        x.bargain(0, 1, 9, 5);
        x.bargain(2, 3, 10, 4);
        x.bargain(1, 2, 20, 0);
        x.hurts(0, 2, 3);
        x.hurts(0, 3, 6);
        x.hurts(1, 0, 5);
        x.hurts(1, 1, 2);
        x.hurts(2, 3, 7);
        x.hurts(2, 0, -4);
        x.bars(0, 2, true);
        x.lives(MILD);
        x.image();
        x.ask(0, 2);
        x.ask(2, 4);
        x.ask(3, 60);
        x.seed(77);
        x.week();
        for (char letter : "law 7".toCharArray()) {
            x.feed(letter);
        }
        return x;
    }

    private static NeedsALoser fullTown() {
        NeedsALoser x = town();
        for (int people = 4; people < 7; people++) {
            x.one();
        }
        for (int bargains = 3; bargains < 7; bargains++) {
            x.bargain(5, 6, 3, 3);
        }
        for (int size = 5; size < 250; size++) {
            x.feed(32);
        }
        return x;
    }

    private static void fillShelves(NeedsALoser x) {
        row(x, CAN, 2, 2, 0, -1);
        row(x, CANNOT, 2, 2, 2, 2);
        row(x, SHORT, 2, 0);
        row(x, LONGS, 3, 1, 2, 3);
        x.rule(MILD, 1, 11);
        x.rule(FOE, 4, 22);
    }

    private static void row(NeedsALoser x, int s, int sort, int... elements) {
        x.row(s, sort, elements.length);
        for (int i = 0; i < elements.length; i++) {
            x.set(s, i, elements[i]);
        }
    }

    // ---- what is seen of a town ----

    private static List<Long> refusals(NeedsALoser x) {
        List<Long> counts = new ArrayList<>();
        for (int what = 12; what <= 16; what++) {
            counts.add((long) x.status(what));
        }
        return counts;
    }

    private static List<Long> picture(NeedsALoser x) {
        List<Long> seen = new ArrayList<>();
        for (int what = 0; what <= 10; what++) {
            seen.add((long) x.status(what));
        }
        int people = x.status(0);
        int bargains = x.status(1);
        for (int t = 0; t < people; t++) {
            seen.add((long) x.standing(t));
            seen.add((long) x.named(t));
        }
        for (int b = 0; b < bargains; b++) {
            for (int what = 0; what < 5; what++) {
                seen.add((long) x.bargainOf(b, what));
            }
            for (int t = 0; t < people; t++) {
                seen.add((long) x.lossOf(b, t));
            }
        }
        for (int s = 0; s < 8; s++) {
            int holds = x.holds(s);
            seen.add((long) holds);
            seen.add(holds > 10 ? x.says(s, 0) : 0L);
            for (int i = 0; holds >= 0 && i < 3; i++) {
                seen.add(x.element(s, i));
            }
        }
        return seen;
    }

    /** The town, what it is with THE TAPE read, and what was kept: this changes it. */
    private static List<List<Long>> wholePicture(NeedsALoser x) {
        List<List<Long>> seen = new ArrayList<>();
        seen.add(picture(x));
        seen.add(List.of((long) x.town(), (long) x.status(4), (long) x.status(12)));
        seen.add(List.of((long) x.back()));
        // The whole of a full town twice would be more calls than one object takes.
        seen.add(List.of((long) x.status(0), (long) x.status(1), (long) x.status(2), (long) x.status(3), (long) x.status(4),
            (long) x.status(6), (long) x.status(7), (long) x.status(9), (long) x.lossOf(0, 2), (long) x.standing(2)));
        return seen;
    }

    /** A call is refused so, and nothing changes but how many of these refusals there were. */
    private static void refused(Maker maker, String name, int refusal, long answer, Call call) {
        NeedsALoser x = maker.make();
        NeedsALoser untouched = maker.make();
        List<Long> counts = refusals(x);
        long got = call.on(x);
        if (got != answer) {
            wrong++;
            System.out.println(name + " answered " + got + ", due is " + answer);
            return;
        }
        counts.set(-2 - refusal, counts.get(-2 - refusal) + 1);
        if (!refusals(x).equals(counts)) {
            wrong++;
            System.out.println(name + ": refusals are " + refusals(x) + ", due are " + counts);
        }
        // The same refusal by a call that can change nothing, so that both were refused as often.
        countOnce(untouched, refusal);
        if (!wholePicture(x).equals(wholePicture(untouched))) {
            wrong++;
            System.out.println(name + " changed something");
        }
    }

    private static void countOnce(NeedsALoser x, int refusal) {
        if (refusal == BAD) {
            x.good(-1);
        }
    }

    private static void inTown(String name, int refusal, Call call) {
        refused(RefusalsTest::town, name, refusal, refusal, call);
    }

    /** Of a call that tells what may be below 0. */
    private static void inTownBelow(String name, int refusal, Call call) {
        refused(RefusalsTest::town, name, refusal, BELOW + refusal, call);
    }

    // ---- promises 2 to 8 ----

    private static void shelves() {
        for (int s : new int[] {-1, 8, MIN, MAX}) {
            inTown("row " + s, BAD, x -> x.row(s, 2, 3));
            inTown("rule " + s, BAD, x -> x.rule(s, 1, 0));
            inTown("set " + s, BAD, x -> x.set(s, 0, 9));
            inTown("set with all bad " + s, BAD, x -> x.set(s, -1, 9));
            inTown("copy from " + s, BAD, x -> x.copy(s, CAN, 0, 0, 1));
            inTown("copy to " + s, BAD, x -> x.copy(CAN, s, 0, 0, 1));
            inTown("copy from a rule to " + s, BAD, x -> x.copy(MILD, s, 0, 0, 1));
            inTown("copy to a rule from " + s, BAD, x -> x.copy(s, MILD, 0, 0, 1));
            inTown("copy from nothing to " + s, BAD, x -> x.copy(EMPTY, s, 0, 0, 1));
            inTown("says " + s, BAD, x -> x.says(s, 1));
        }
        inTown("row sort -1", BAD, x -> x.row(CAN, -1, 3));
        inTown("row sort 5", BAD, x -> x.row(CAN, 5, 3));
        inTown("row of -1", BAD, x -> x.row(CAN, 2, -1));
        inTown("row of 41", BAD, x -> x.row(MILD, 2, 41));
        inTown("rule kind 0", BAD, x -> x.rule(MILD, 0, 0));
        inTown("rule kind 7", BAD, x -> x.rule(CAN, 7, 0));
        inTown("rule a -1", BAD, x -> x.rule(MILD, 1, -1));
        inTown("rule a 100", BAD, x -> x.rule(EMPTY, 1, 100));
        inTown("set of a rule", OTHER, x -> x.set(MILD, 0, 9));
        inTown("set of a rule, bad i", OTHER, x -> x.set(MILD, -1, 9));
        inTown("set of nothing", NOTHING, x -> x.set(EMPTY, 0, 9));
        inTown("set of nothing, bad i", NOTHING, x -> x.set(EMPTY, 40, 9));
        inTown("set i -1", BAD, x -> x.set(CAN, -1, 9));
        inTown("set i 3", BAD, x -> x.set(CAN, 3, 9));
        inTown("copy from a rule", OTHER, x -> x.copy(MILD, CAN, 0, 0, 1));
        inTown("copy to a rule", OTHER, x -> x.copy(CAN, MILD, 0, 0, 1));
        inTown("copy between rules", OTHER, x -> x.copy(MILD, FOE, 0, 0, 1));
        inTown("copy in a rule", OTHER, x -> x.copy(MILD, MILD, 0, 0, 1));
        inTown("copy from a rule to nothing", OTHER, x -> x.copy(MILD, EMPTY, 0, 0, 1));
        inTown("copy from nothing to a rule", OTHER, x -> x.copy(EMPTY, MILD, 0, 0, 1));
        inTown("copy from a rule, all bad", OTHER, x -> x.copy(MILD, CAN, -1, -1, -1));
        inTown("copy of two sorts", OTHER, x -> x.copy(CAN, LONGS, 0, 0, 1));
        inTown("copy of two sorts, round", OTHER, x -> x.copy(LONGS, CAN, 0, 0, 1));
        inTown("copy of two sorts, all bad", OTHER, x -> x.copy(CAN, LONGS, -1, 99, MIN));
        inTown("copy of nothing", NOTHING, x -> x.copy(EMPTY, LONGS, 0, 0, 1));
        inTown("copy to nothing", NOTHING, x -> x.copy(LONGS, EMPTY, 0, 0, 1));
        inTown("copy of nothing, all bad", NOTHING, x -> x.copy(EMPTY, CAN, -1, -1, -1));
        inTown("copy to nothing, all bad", NOTHING, x -> x.copy(CAN, EMPTY, 99, MAX, MAX));
        inTown("copy in nothing", NOTHING, x -> x.copy(EMPTY, EMPTY, 0, 0, 0));
        inTown("copy i", BAD, x -> x.copy(CAN, CANNOT, 3, 0, 1));
        inTown("copy j", BAD, x -> x.copy(CAN, CANNOT, 0, 3, 1));
        inTown("copy n", BAD, x -> x.copy(CAN, CANNOT, 0, 0, 4));
        inTown("copy n below 0", BAD, x -> x.copy(CAN, CANNOT, 0, 0, -1));
        inTown("copy of more than there is to copy", BAD, x -> x.copy(SHORT, CAN, 0, 0, 2));
        inTown("copy of more than there is room for", BAD, x -> x.copy(CAN, SHORT, 0, 0, 2));
        inTown("says kind -1", BAD, x -> x.says(MILD, -1));
        inTown("says kind 7", BAD, x -> x.says(MILD, 7));
        inTown("says kind 7 of a row", BAD, x -> x.says(CAN, 7));
        inTown("says kind 7 of nothing", BAD, x -> x.says(EMPTY, 7));
        inTown("says of a row", OTHER, x -> x.says(CAN, 0));
        inTown("says of a row, as 6", OTHER, x -> x.says(CAN, 6));
        inTown("says of no such kind", OTHER, x -> x.says(FOE, 1));
        inTown("says of a kind above", OTHER, x -> x.says(MILD, 2));
        inTown("says of nothing", NOTHING, x -> x.says(EMPTY, 0));
        inTown("says of nothing, as 6", NOTHING, x -> x.says(EMPTY, 6));
    }

    // ---- promises 10 to 16 ----

    private static void building() {
        inTown("bargain p", BAD, x -> x.bargain(4, 0, 1, 1));
        inTown("bargain p below 0", BAD, x -> x.bargain(-1, 0, 1, 1));
        inTown("bargain q", BAD, x -> x.bargain(0, 4, 1, 1));
        inTown("bargain q below 0", BAD, x -> x.bargain(0, -1, 1, 1));
        inTown("bargain p is q", BAD, x -> x.bargain(2, 2, 1, 1));
        inTown("bargain gain of P", BAD, x -> x.bargain(0, 1, 100, 1));
        inTown("bargain gain of Q", BAD, x -> x.bargain(0, 1, 1, -1));
        inTown("hurts bargain", BAD, x -> x.hurts(3, 0, 1));
        inTown("hurts bargain below 0", BAD, x -> x.hurts(-1, 3, 1));
        inTown("hurts one", BAD, x -> x.hurts(0, 4, 1));
        inTown("hurts one below 0", BAD, x -> x.hurts(1, -1, 1));
        inTown("hurts 100", BAD, x -> x.hurts(0, 2, 100));
        inTown("hurts -100", BAD, x -> x.hurts(0, 2, -100));
        inTown("bars bargain", BAD, x -> x.bars(3, 0, true));
        inTown("bars other", BAD, x -> x.bars(0, 3, true));
        inTown("bars other below 0", BAD, x -> x.bars(0, -1, false));
        inTown("bars itself", BAD, x -> x.bars(1, 1, true));
        inTown("bars itself no more", BAD, x -> x.bars(1, 1, false));
        inTown("ask what -1", BAD, x -> x.ask(-1, 1));
        inTown("ask what 4", BAD, x -> x.ask(4, 1));
        int[][] laws = {{0, 0}, {0, 100}, {1, -1}, {1, 2}, {2, -1}, {2, 11}, {3, -1}, {3, 1000}};
        for (int[] law : laws) {
            inTown("ask " + law[0] + " " + law[1], BAD, x -> x.ask(law[0], law[1]));
        }
        inTown("feed -1", BAD, x -> x.feed(-1));
        inTown("feed 256", BAD, x -> x.feed(256));
        // A FAULT is refused, too, but empties THE TAPE.
        NeedsALoser x = town();
        NeedsALoser untouched = town();
        x.feed('x');
        due("town with a fault", x.town(), -25);
        due("the tape is empty", x.status(8), 0);
        due("counted", x.status(12), untouched.status(12) + 1);
        untouched.wipe();
        if (!picture(x).equals(picture(untouched))) {
            wrong++;
            System.out.println("a town with a fault changed something");
        }
    }

    private static void due(String name, long got, long answer) {
        if (got != answer) {
            wrong++;
            System.out.println(name + " answered " + got + ", due is " + answer);
        }
    }

    // ---- promises 17 to 21, 36, 37, 54 ----

    private static void looks() {
        inTown("bargainOf", BAD, x -> x.bargainOf(3, 0));
        inTown("bargainOf what", BAD, x -> x.bargainOf(0, 5));
        inTown("bargainOf what below 0", BAD, x -> x.bargainOf(0, -1));
        inTownBelow("lossOf bargain", BAD, x -> x.lossOf(3, 0));
        inTownBelow("lossOf one", BAD, x -> x.lossOf(0, 4));
        inTownBelow("standing", BAD, x -> x.standing(4));
        inTownBelow("standing below 0", BAD, x -> x.standing(-1));
        inTown("good", BAD, x -> x.good(3));
        inTownBelow("value bargain", BAD, x -> x.value(3, 2));
        inTownBelow("value third", BAD, x -> x.value(0, 4));
        inTownBelow("value third below 0", BAD, x -> x.value(0, -1));
        inTownBelow("value not good", STUCK, x -> x.value(2, 0));
        inTownBelow("value of a party", STUCK, x -> x.value(0, 0));
        inTown("alone", BAD, x -> x.alone(4));
        inTown("party", BAD, x -> x.party(-1));
        inTown("named", BAD, x -> x.named(4));
    }

    // ---- promises 22 to 25, 33 ----

    private static void rulesAndTold() {
        for (int s : new int[] {-1, 8, MIN, MAX}) {
            inTown("name " + s, BAD, x -> x.name(s, 0, 0));
            inTown("judge " + s, BAD, x -> x.judge(s));
            inTownBelow("told " + s, BAD, x -> x.told(s, 0));
            inTownBelow("by " + s, BAD, x -> x.by(s, 0));
            inTownBelow("gap " + s, BAD, x -> x.gap(s));
            inTown("lives " + s, BAD, x -> x.lives(s));
            inTown("makes " + s, BAD, x -> x.makes(s));
        }
        inTown("name bargain", BAD, x -> x.name(MILD, 3, 0));
        inTown("name bargain of a row", BAD, x -> x.name(CAN, 3, 0));
        inTown("name bargain of nothing", BAD, x -> x.name(EMPTY, -1, 0));
        inTown("name set", BAD, x -> x.name(MILD, 0, -1));
        inTown("name set of a row", BAD, x -> x.name(CAN, 0, -1));
        inTown("name set of nothing", BAD, x -> x.name(EMPTY, 0, -1));
        inTown("name of a row", OTHER, x -> x.name(CAN, 0, 0));
        inTown("name of nothing", NOTHING, x -> x.name(EMPTY, 0, 0));
        inTown("judge of a rule", OTHER, x -> x.judge(MILD));
        inTown("judge of nothing", NOTHING, x -> x.judge(EMPTY));
        inTown("judge of fewer", BAD, x -> x.judge(SHORT));
        inTownBelow("told of a rule", OTHER, x -> x.told(MILD, 0));
        inTownBelow("told of nothing", NOTHING, x -> x.told(EMPTY, 0));
        inTownBelow("told of fewer, which can't be either", BAD, x -> x.told(SHORT, 0));
        inTownBelow("told what can't be", STUCK, x -> x.told(CANNOT, 0));
        inTownBelow("told what", BAD, x -> x.told(CAN, 3));
        inTownBelow("told what below 0", BAD, x -> x.told(CAN, -1));
        inTownBelow("told what of what can't be", BAD, x -> x.told(CANNOT, 3));
        inTownBelow("by of a row", OTHER, x -> x.by(CAN, 0));
        inTownBelow("by of nothing", NOTHING, x -> x.by(EMPTY, 0));
        inTownBelow("by what", BAD, x -> x.by(MILD, 3));
        inTownBelow("by what below 0", BAD, x -> x.by(MILD, -1));
        inTownBelow("gap of a row", OTHER, x -> x.gap(CAN));
        inTownBelow("gap of nothing", NOTHING, x -> x.gap(EMPTY));
    }

    // ---- promises 27, 28, 53 ----

    private static void truth() {
        inTown("lives of a row", OTHER, x -> x.lives(CAN));
        inTown("lives of nothing", NOTHING, x -> x.lives(EMPTY));
        inTown("makes of a rule", OTHER, x -> x.makes(MILD));
        inTown("makes of nothing", NOTHING, x -> x.makes(EMPTY));
        inTown("makes of fewer, which can't be either", BAD, x -> x.makes(SHORT));
        inTown("makes what can't be", STUCK, x -> x.makes(CANNOT));
        inTown("weeks 0", BAD, x -> x.weeks(0));
        inTown("weeks 31", BAD, x -> x.weeks(31));
        inTown("weeks below 0", BAD, x -> x.weeks(MIN));
    }

    // ---- promises 30, 31, 41, 43 ----

    private static void best() {
        inTown("bestOf", BAD, x -> x.bestOf(3));
        inTown("bestOf below 0", BAD, x -> x.bestOf(-1));
        inTown("worth", BAD, x -> x.worth(4));
        inTown("worth below 0", BAD, x -> x.worth(-1));
        inTownBelow("cross bargain", BAD, x -> x.cross(3, 0, 0));
        inTownBelow("cross other", BAD, x -> x.cross(0, 3, 0));
        inTownBelow("cross itself", BAD, x -> x.cross(1, 1, 1));
        inTownBelow("cross what", BAD, x -> x.cross(0, 1, 2));
        inTownBelow("cross what below 0", BAD, x -> x.cross(0, 1, -1));
        inTownBelow("cross what of none", BAD, x -> x.cross(0, 2, 2));
        inTownBelow("cross of none", STUCK, x -> x.cross(0, 2, 1));
        inTown("harm", BAD, x -> x.harm(4));
        inTown("harm below 0", BAD, x -> x.harm(-1));
    }

    // ---- promises 46, 49, 51 ----

    private static void court() {
        inTownBelow("said bargain", BAD, x -> x.said(3, 2));
        inTownBelow("said third", BAD, x -> x.said(0, 4));
        inTownBelow("said third below 0", BAD, x -> x.said(0, -1));
        inTownBelow("said of what is good", STUCK, x -> x.said(0, 2));
        inTownBelow("said of a party", STUCK, x -> x.said(0, 1));
        inTown("under 0", BAD, x -> x.under(0));
        inTown("under 100", BAD, x -> x.under(100));
        inTown("hiding bargain", BAD, x -> x.hiding(3, 2));
        inTown("hiding third", BAD, x -> x.hiding(0, 4));
        inTown("hiding bargain of a party", BAD, x -> x.hiding(-1, 0));
        inTown("hiding of a party", STUCK, x -> x.hiding(0, 1));
    }

    // ---- where there is nobody, no BARGAIN, no RULE ----

    private static void nobody() {
        Maker maker = RefusalsTest::empty;
        refused(maker, "dearest", STUCK, STUCK, NeedsALoser::dearest);
        refused(maker, "richest", STUCK, STUCK, NeedsALoser::richest);
        refused(maker, "fair", STUCK, STUCK, NeedsALoser::fair);
        refused(maker, "worst", STUCK, STUCK, NeedsALoser::worst);
        refused(maker, "hated", STUCK, STUCK, NeedsALoser::hated);
        refused(maker, "back", STUCK, STUCK, NeedsALoser::back);
        refused(NeedsALoser::new, "head", STUCK, STUCK, NeedsALoser::head);
        refused(maker, "bargain", BAD, BAD, x -> x.bargain(0, 1, 1, 1));
        refused(maker, "named", BAD, BAD, x -> x.named(0));
        refused(maker, "standing", BAD, BELOW + BAD, x -> x.standing(0));
        refused(maker, "worth", BAD, BAD, x -> x.worth(0));
        refused(maker, "harm", BAD, BAD, x -> x.harm(0));
        refused(maker, "alone", BAD, BAD, x -> x.alone(0));
        refused(maker, "party", BAD, BAD, x -> x.party(0));
    }

    private static void noBargains() {
        Maker maker = RefusalsTest::people;
        refused(maker, "says", STUCK, STUCK, x -> x.says(MILD, 1));
        refused(maker, "says of another kind", OTHER, OTHER, x -> x.says(FOE, 1));
        refused(maker, "says of a row", OTHER, OTHER, x -> x.says(CAN, 1));
        refused(maker, "says of nothing", NOTHING, NOTHING, x -> x.says(EMPTY, 1));
        refused(maker, "says of no kind", BAD, BAD, x -> x.says(MILD, 7));
        refused(maker, "name", BAD, BAD, x -> x.name(MILD, 0, 0));
        refused(maker, "name of a row", BAD, BAD, x -> x.name(CAN, 0, 0));
        refused(maker, "hurts", BAD, BAD, x -> x.hurts(0, 0, 1));
        refused(maker, "bars", BAD, BAD, x -> x.bars(0, 1, true));
        refused(maker, "good", BAD, BAD, x -> x.good(0));
        refused(maker, "bestOf", BAD, BAD, x -> x.bestOf(0));
        refused(maker, "hiding", BAD, BAD, x -> x.hiding(0, 0));
        refused(maker, "said", BAD, BELOW + BAD, x -> x.said(0, 0));
        refused(maker, "cross", BAD, BELOW + BAD, x -> x.cross(0, 1, 0));
    }

    // ---- where there is no room ----

    private static void full() {
        Maker maker = RefusalsTest::fullTown;
        refused(maker, "one", FULL, FULL, NeedsALoser::one);
        refused(maker, "bargain", FULL, FULL, x -> x.bargain(0, 1, 1, 1));
        refused(maker, "bargain p", BAD, BAD, x -> x.bargain(7, 1, 1, 1));
        refused(maker, "bargain p is q", BAD, BAD, x -> x.bargain(6, 6, 1, 1));
        refused(maker, "bargain gain", BAD, BAD, x -> x.bargain(0, 1, 1, 100));
        refused(maker, "feed", FULL, FULL, x -> x.feed(32));
        refused(maker, "feed 256", BAD, BAD, x -> x.feed(256));
        refused(maker, "standing", BAD, BELOW + BAD, x -> x.standing(7));
        refused(maker, "good", BAD, BAD, x -> x.good(7));
        refused(maker, "hurts", BAD, BAD, x -> x.hurts(6, 7, 1));
        refused(maker, "hurts bargain", BAD, BAD, x -> x.hurts(7, 6, 1));
        refused(maker, "bars", BAD, BAD, x -> x.bars(6, 7, true));
    }
}
