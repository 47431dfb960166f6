/**
 * A town in which no bargain is good but one that names some third who is the worse for it.
 * The words in capitals are those of the document.
 */
public final class NeedsALoser {
    public static final int NONE = -1;

    private static final int BAD = -2;
    private static final int OTHER = -3;
    private static final int NOTHING = -4;
    private static final int STUCK = -5;
    private static final int FULL = -6;
    /** Stands where a refusal would, if there is none. */
    private static final int ALLOWED = 0;
    /** What is added to a refusal where an answer below 0 could be mistaken for one. */
    private static final int BELOW = -1000000;
    private static final int REFUSALS = 5;
    private static final int FIRST_REFUSAL_TOLD = 12;
    private static final int MOST_PEOPLE = 7;
    private static final int MOST_BARGAINS = 7;
    private static final int SHELVES = 8;
    private static final int BITS_OF_INT = 32;
    private static final int MOST_GAIN = 99;
    private static final int MOST_LOSS = 99;
    private static final int MOST_LEAST = 99;
    private static final int MOST_COURT = 10;
    private static final int MOST_FINE = 999;
    private static final int MOST_WEEKS = 30;
    private static final int FAULT_BASE = -20;

    private final Town now = new Town();
    private final Town kept = new Town();
    /** For what is only tried: texts that may have a FAULT, laws and LOSSES that are not so. */
    private final Town draft = new Town();
    private boolean isKept = false;
    private final Shelves shelves = new Shelves();
    private final Reader reader = new Reader();
    private final Week trial = new Week();
    private final Search search = new Search();
    private final int[] refusals = new int[REFUSALS];

    public NeedsALoser() {
    }

    // ---- SHELVES ----

    public int row(int s, int sort, int n) {
        if (!isBelow(s, SHELVES) || !isBelow(sort, Shelves.SORTS) || !isWithin(n, 0, Shelves.WIDTH)) {
            return refuse(BAD);
        }
        shelves.putRow(s, sort, n);
        return 1;
    }

    public int set(int s, int i, long v) {
        int refusal = shelves.rowRefusal(s);
        if (refusal == ALLOWED && !isBelow(i, shelves.sizeOf(s))) {
            refusal = BAD;
        }
        if (refusal != ALLOWED) {
            return refuse(refusal);
        }
        shelves.putElement(s, i, v);
        return 1;
    }

    public int copy(int p, int q, int i, int j, int n) {
        int refusal = shelves.copyRefusal(p, q, i, j, n);
        if (refusal != ALLOWED) {
            return refuse(refusal);
        }
        shelves.move(p, q, i, j, n);
        return n;
    }

    public long element(int s, int i) {
        return shelves.elementAt(s, i);
    }

    public int holds(int s) {
        return shelves.heldIn(s);
    }

    public int rule(int s, int kind, int a) {
        if (!isBelow(s, SHELVES) || !isWithin(kind, Rules.MILD, Rules.ROUND) || !isWithin(a, 0, Rules.MOST_A)) {
            return refuse(BAD);
        }
        shelves.putRule(s, kind, a);
        return 1;
    }

    public int says(int s, int kind) {
        if (!isBelow(s, SHELVES) || !isWithin(kind, Rules.RULE, Rules.ROUND)) {
            return refuse(BAD);
        }
        int refusal = shelves.ruleRefusal(s);
        if (refusal == ALLOWED && !Rules.isUnder(shelves.kindIn(s), kind)) {
            refusal = OTHER;
        }
        if (refusal == ALLOWED && kind != Rules.RULE && now.bargains == 0) {
            refusal = STUCK;
        }
        if (refusal != ALLOWED) {
            return refuse(refusal);
        }
        return kind == Rules.RULE ? shelves.numberIn(s) : thirdByShelf(s, 0, 0);
    }

    // ---- THE TOWN ----

    public int one() {
        return now.people >= MOST_PEOPLE ? refuse(FULL) : now.addPerson();
    }

    public int bargain(int p, int q, int gainOfP, int gainOfQ) {
        if (!now.hasPerson(p) || !now.hasPerson(q) || p == q
                || !isWithin(gainOfP, 0, MOST_GAIN) || !isWithin(gainOfQ, 0, MOST_GAIN)) {
            return refuse(BAD);
        }
        return now.bargains >= MOST_BARGAINS ? refuse(FULL) : now.addBargain(p, q, gainOfP, gainOfQ);
    }

    public int hurts(int bargain, int one, int v) {
        if (!now.hasPair(bargain, one) || !isWithin(v, -MOST_LOSS, MOST_LOSS)) {
            return refuse(BAD);
        }
        now.putLoss(bargain, one, v);
        return 1;
    }

    public int bars(int bargain, int other, boolean is) {
        if (!now.hasUnlike(bargain, other)) {
            return refuse(BAD);
        }
        if (hasBit(now.barredBy(bargain), other) == is) {
            return 0;
        }
        now.putBar(bargain, other, is);
        return 1;
    }

    public int ask(int what, int v) {
        if (!isBelow(what, Town.LAWS) || !isWithin(v, Town.leastOfLaw(what), Town.mostOfLaw(what))) {
            return refuse(BAD);
        }
        int ahead = now.law(what);
        now.putLaw(what, v);
        return ahead;
    }

    public int feed(int letter) {
        if (!isWithin(letter, 0, 255)) {
            return refuse(BAD);
        }
        return reader.isFull() ? refuse(FULL) : reader.add(letter);
    }

    public int wipe() {
        return reader.clear();
    }

    public int town() {
        draft.become(now);
        int answer = reader.read(draft);
        reader.clear();
        if (answer <= FAULT_BASE) {
            refuse(BAD);
        } else {
            now.become(draft);
        }
        return answer;
    }

    public int bargainOf(int bargain, int what) {
        if (!now.hasBargain(bargain)) {
            return refuse(BAD);
        }
        switch (what) {
            case 0:
                return at(now.firsts, bargain);
            case 1:
                return at(now.seconds, bargain);
            case 2:
                return at(now.gainsOfFirst, bargain);
            case 3:
                return at(now.gainsOfSecond, bargain);
            case 4:
                return now.barredBy(bargain);
            default:
                return refuse(BAD);
        }
    }

    public int lossOf(int bargain, int one) {
        return now.hasPair(bargain, one) ? now.lossBy(bargain, one) : refuseBelow(BAD);
    }

    public int standing(int one) {
        return now.hasPerson(one) ? at(now.standings, one) : refuseBelow(BAD);
    }

    public int good(int bargain) {
        return now.hasBargain(bargain) ? now.goodBits(bargain) : refuse(BAD);
    }

    public int value(int bargain, int third) {
        if (!now.hasPair(bargain, third)) {
            return refuseBelow(BAD);
        }
        return now.isGoodBy(bargain, third) ? now.valueBy(bargain, third) : refuseBelow(STUCK);
    }

    // ---- WEEKS ----

    public int name(int s, int bargain, int named) {
        if (!isBelow(s, SHELVES) || !now.hasBargain(bargain) || !isBelow(named, 1 << now.people)) {
            return refuse(BAD);
        }
        int refusal = shelves.ruleRefusal(s);
        return refusal == ALLOWED ? thirdByShelf(s, bargain, named) : refuse(refusal);
    }

    public int judge(int s) {
        int refusal = toldRefusal(s);
        return refusal == ALLOWED ? trial.fillTold(now, shelves, s) : refuse(refusal);
    }

    public int told(int s, int what) {
        int refusal = isBelow(what, Week.TELLINGS) ? toldRefusal(s) : BAD;
        if (refusal == ALLOWED && trial.fillTold(now, shelves, s) != NONE) {
            refusal = STUCK;
        }
        return refusal == ALLOWED ? trial.tell(now, what) : refuseBelow(refusal);
    }

    public int by(int s, int what) {
        int refusal = isBelow(what, Week.TELLINGS) ? shelves.ruleRefusal(s) : BAD;
        return refusal == ALLOWED ? tellByShelf(s, what) : refuseBelow(refusal);
    }

    public int head() {
        int first = NONE;
        int greatest = 0;
        for (int s = 0; s < SHELVES; s++) {
            if (shelves.ruleRefusal(s) == ALLOWED) {
                int sum = tellByShelf(s, Week.VALUE);
                if (first == NONE || sum > greatest) {
                    first = s;
                    greatest = sum;
                }
            }
        }
        return first == NONE ? refuse(STUCK) : first;
    }

    public int lives(int s) {
        int refusal = shelves.ruleRefusal(s);
        if (refusal != ALLOWED) {
            return refuse(refusal);
        }
        trial.fillByRule(now, shelves.kindIn(s), shelves.numberIn(s));
        return trial.comeTrue(now);
    }

    public int makes(int s) {
        int refusal = toldRefusal(s);
        if (refusal == ALLOWED && trial.fillTold(now, shelves, s) != NONE) {
            refusal = STUCK;
        }
        return refusal == ALLOWED ? trial.comeTrue(now) : refuse(refusal);
    }

    public int week() {
        trial.fillByDraws(now);
        return trial.comeTrue(now);
    }

    public int weeks(int n) {
        if (!isWithin(n, 1, MOST_WEEKS)) {
            return refuse(BAD);
        }
        int all = 0;
        for (int i = 0; i < n; i++) {
            trial.fillByDraws(now);
            all += trial.comeTrue(now);
        }
        return all;
    }

    // ---- WHAT CAN BE ----

    public int best() {
        return search.bestValue(now, now.everybody());
    }

    public int bestOf(int bargain) {
        return now.hasBargain(bargain) ? search.bestThird(now, bargain) : refuse(BAD);
    }

    public int worth(int one) {
        if (!now.hasPerson(one)) {
            return refuse(BAD);
        }
        return best() - search.bestValue(now, now.everybody() & ~(1 << one));
    }

    public int dearest() {
        // The greatest WORTH is that of the one without whom the VALUE of BEST is the least.
        int first = NONE;
        int least = 0;
        for (int t = 0; t < now.people; t++) {
            int without = search.bestValue(now, now.everybody() & ~(1 << t));
            if (first == NONE || without < least) {
                first = t;
                least = without;
            }
        }
        return first == NONE ? refuse(STUCK) : first;
    }

    public int gap(int s) {
        int refusal = shelves.ruleRefusal(s);
        return refusal == ALLOWED ? best() - tellByShelf(s, Week.VALUE) : refuseBelow(refusal);
    }

    public int fewest() {
        return search.fewestBits(now);
    }

    public int richest() {
        return now.people == 0 ? refuse(STUCK) : placeOfGreatest(now.standings, now.people);
    }

    public int alone(int one) {
        if (!now.hasPerson(one)) {
            return refuse(BAD);
        }
        int bits = 0;
        for (int b = 0; b < now.bargains; b++) {
            if (now.goodBits(b) == 1 << one) {
                bits |= 1 << b;
            }
        }
        return bits;
    }

    public int party(int one) {
        if (!now.hasPerson(one)) {
            return refuse(BAD);
        }
        int bits = 0;
        for (int b = 0; b < now.bargains; b++) {
            if (now.isParty(b, one)) {
                bits |= 1 << b;
            }
        }
        return bits;
    }

    public int fair() {
        if (now.people == 0) {
            return refuse(STUCK);
        }
        int most = at(now.times, placeOfGreatest(now.times, now.people));
        int least = most;
        for (int t = 0; t < now.people; t++) {
            least = Math.min(least, at(now.times, t));
        }
        return most - least;
    }

    public int never() {
        int bits = 0;
        for (int b = 0; b < now.bargains; b++) {
            if (now.goodBits(b) == 0) {
                bits |= 1 << b;
            }
        }
        return bits;
    }

    public int free() {
        return search.greatestGains(now);
    }

    public int cross(int bargain, int other, int what) {
        if (!now.hasUnlike(bargain, other) || !isBelow(what, 2)) {
            return refuseBelow(BAD);
        }
        int thirds = now.goodBits(bargain) & now.partyBits(other);
        int thirdsOfOther = now.goodBits(other) & now.partyBits(bargain);
        boolean isCross = thirds != 0 && thirdsOfOther != 0;
        if (what == 0) {
            return isCross ? 1 : 0;
        }
        if (!isCross) {
            return refuseBelow(STUCK);
        }
        return greatestValue(bargain, thirds) + greatestValue(other, thirdsOfOther);
    }

    public int rings() {
        int count = 0;
        for (int a = 0; a < now.bargains; a++) {
            for (int b = a + 1; b < now.bargains; b++) {
                for (int c = b + 1; c < now.bargains; c++) {
                    // Of three there are but these two orders round.
                    if (isRing(a, b, c) || isRing(a, c, b)) {
                        count++;
                    }
                }
            }
        }
        return count;
    }

    public int harm(int one) {
        return now.hasPerson(one) ? search.greatestHarm(now, one) : refuse(BAD);
    }

    public int worst() {
        int first = NONE;
        int greatest = 0;
        for (int t = 0; t < now.people; t++) {
            int losses = search.greatestHarm(now, t);
            if (first == NONE || losses > greatest) {
                first = t;
                greatest = losses;
            }
        }
        return first == NONE ? refuse(STUCK) : first;
    }

    public int hated() {
        int first = NONE;
        int most = 0;
        for (int t = 0; t < now.people; t++) {
            int count = Integer.bitCount(now.bargainsGoodBy(t));
            if (first == NONE || count > most) {
                first = t;
                most = count;
            }
        }
        return first == NONE ? refuse(STUCK) : first;
    }

    // ---- THE COURT, OTHER LAWS ----

    public int said(int bargain, int third) {
        if (!now.hasPair(bargain, third)) {
            return refuseBelow(BAD);
        }
        if (!now.canBeSaid(bargain, third)) {
            return refuseBelow(STUCK);
        }
        return now.shareOfSaid(bargain, third) - now.court * now.fine;
    }

    public int dares() {
        int count = 0;
        for (int b = 0; b < now.bargains; b++) {
            for (int t = 0; t < now.people; t++) {
                if (now.canBeSaid(b, t) && now.shareOfSaid(b, t) > now.court * now.fine) {
                    count++;
                }
            }
        }
        return count;
    }

    public int deters() {
        int greatest = 0;
        for (int b = 0; b < now.bargains; b++) {
            for (int t = 0; t < now.people; t++) {
                if (now.canBeSaid(b, t)) {
                    greatest = Math.max(greatest, now.shareOfSaid(b, t));
                }
            }
        }
        if (greatest == 0) {
            return 0;
        }
        if (now.court == 0) {
            // No FINE is ever paid then.
            return NONE;
        }
        int least = (greatest + now.court - 1) / now.court;
        return least > MOST_FINE ? NONE : least;
    }

    public int under(int least) {
        if (!isWithin(least, 1, MOST_LEAST)) {
            return refuse(BAD);
        }
        draft.become(now);
        draft.least = least;
        return search.bestValue(draft, draft.everybody());
    }

    public int bestLaw() {
        // A greater LEAST only takes thirds away and leaves the VALUES of the others as they are:
        // the VALUE of BEST never grows with it, so no law has a greater one than the least law.
        return 1;
    }

    public int hiding(int bargain, int third) {
        if (!now.hasPair(bargain, third)) {
            return refuse(BAD);
        }
        if (now.isParty(bargain, third)) {
            return refuse(STUCK);
        }
        draft.become(now);
        draft.putLoss(bargain, third, now.least);
        return search.bestValue(draft, draft.everybody()) - best();
    }

    // ---- WHAT HAS BEEN ----

    public int named(int one) {
        return now.hasPerson(one) ? at(now.times, one) : refuse(BAD);
    }

    public int seed(int v) {
        int ahead = now.seed;
        now.seed = v;
        return ahead;
    }

    public int image() {
        kept.become(now);
        isKept = true;
        return 1;
    }

    public int back() {
        if (!isKept) {
            return refuse(STUCK);
        }
        now.become(kept);
        return 1;
    }

    public int status(int what) {
        switch (what) {
            case 0:
                return now.people;
            case 1:
                return now.bargains;
            case 2:
                return now.weeksLived;
            case 3:
                return now.madeInAll;
            case 4:
                return now.least;
            case 5:
                return now.once;
            case 6:
                return now.court;
            case 7:
                return now.fine;
            case 8:
                return reader.size;
            case 9:
                return now.seed;
            case 10:
                return shelves.countHeld();
            default:
                return isWithin(what, FIRST_REFUSAL_TOLD, FIRST_REFUSAL_TOLD + REFUSALS - 1)
                        ? at(refusals, what - FIRST_REFUSAL_TOLD) : NONE;
        }
    }

    // ---- helpers of the calls ----

    private int refuse(int refusal) {
        int place = BAD - refusal;
        put(refusals, place, at(refusals, place) + 1);
        return refusal;
    }

    private int refuseBelow(int refusal) {
        return BELOW + refuse(refusal);
    }

    private int toldRefusal(int s) {
        int refusal = shelves.rowRefusal(s);
        return refusal == ALLOWED && shelves.sizeOf(s) < now.bargains ? BAD : refusal;
    }

    private int thirdByShelf(int s, int bargain, int taken) {
        return Rules.thirdFor(now, shelves.kindIn(s), shelves.numberIn(s), bargain, now.mayBits(bargain, taken));
    }

    private int tellByShelf(int s, int what) {
        trial.fillByRule(now, shelves.kindIn(s), shelves.numberIn(s));
        return trial.tell(now, what);
    }

    private int greatestValue(int bargain, int thirds) {
        int third = Rules.foremost(now, Rules.MILD, 0, bargain, thirds);
        return now.valueBy(bargain, third);
    }

    private boolean isRing(int a, int b, int c) {
        return (now.goodBits(a) & now.partyBits(b)) != 0
                && (now.goodBits(b) & now.partyBits(c)) != 0
                && (now.goodBits(c) & now.partyBits(a)) != 0;
    }

    private static int placeOfGreatest(int[] numbers, int count) {
        int first = 0;
        for (int i = 1; i < count; i++) {
            if (at(numbers, i) > at(numbers, first)) {
                first = i;
            }
        }
        return first;
    }

    private static boolean isWithin(int v, int low, int high) {
        return v >= low && v <= high;
    }

    private static boolean isBelow(int v, int count) {
        return v >= 0 && v < count;
    }

    private static boolean hasBit(int bits, int place) {
        return isBelow(place, BITS_OF_INT) && (bits >> place & 1) == 1;
    }

    private static int at(int[] numbers, int i) {
        return i >= 0 && i < numbers.length ? numbers[i] : 0;
    }

    private static void put(int[] numbers, int i, int v) {
        if (i >= 0 && i < numbers.length) {
            numbers[i] = v;
        }
    }

    private static void copyAll(int[] from, int[] to) {
        for (int i = 0; i < from.length && i < to.length; i++) {
            to[i] = from[i];
        }
    }

    /** All that image() keeps: PEOPLE, BARGAINS, THE LAW, the COURT, SEED and what was in truth. */
    private static final class Town {
        static final int LAWS = 4;
        private static final int LEAST = 0;
        private static final int ONCE = 1;
        private static final int COURT = 2;
        private static final int FINE = 3;

        private int people = 0;
        private int bargains = 0;
        private int least = 1;
        private int once = 1;
        private int court = 5;
        private int fine = 50;
        private int seed = 1;
        private int weeksLived = 0;
        private int madeInAll = 0;
        private final int[] standings = new int[MOST_PEOPLE];
        private final int[] times = new int[MOST_PEOPLE];
        private final int[] firsts = new int[MOST_BARGAINS];
        private final int[] seconds = new int[MOST_BARGAINS];
        private final int[] gainsOfFirst = new int[MOST_BARGAINS];
        private final int[] gainsOfSecond = new int[MOST_BARGAINS];
        private final int[] barred = new int[MOST_BARGAINS];
        private final int[] losses = new int[MOST_BARGAINS * MOST_PEOPLE];

        void become(Town from) {
            people = from.people;
            bargains = from.bargains;
            least = from.least;
            once = from.once;
            court = from.court;
            fine = from.fine;
            seed = from.seed;
            weeksLived = from.weeksLived;
            madeInAll = from.madeInAll;
            copyAll(from.standings, standings);
            copyAll(from.times, times);
            copyAll(from.firsts, firsts);
            copyAll(from.seconds, seconds);
            copyAll(from.gainsOfFirst, gainsOfFirst);
            copyAll(from.gainsOfSecond, gainsOfSecond);
            copyAll(from.barred, barred);
            copyAll(from.losses, losses);
        }

        boolean hasPerson(int one) {
            return isBelow(one, people);
        }

        boolean hasBargain(int bargain) {
            return isBelow(bargain, bargains);
        }

        boolean hasPair(int bargain, int one) {
            return hasBargain(bargain) && hasPerson(one);
        }

        boolean hasUnlike(int bargain, int other) {
            return hasBargain(bargain) && hasBargain(other) && bargain != other;
        }

        int everybody() {
            return (1 << people) - 1;
        }

        int addPerson() {
            people++;
            return people - 1;
        }

        int addBargain(int p, int q, int gainOfP, int gainOfQ) {
            int bargain = bargains;
            put(firsts, bargain, p);
            put(seconds, bargain, q);
            put(gainsOfFirst, bargain, gainOfP);
            put(gainsOfSecond, bargain, gainOfQ);
            bargains++;
            return bargain;
        }

        void putLoss(int bargain, int one, int v) {
            put(losses, bargain * MOST_PEOPLE + one, v);
        }

        void putBar(int bargain, int other, boolean is) {
            put(barred, bargain, withBit(barredBy(bargain), other, is));
            put(barred, other, withBit(barredBy(other), bargain, is));
        }

        private static int withBit(int bits, int place, boolean is) {
            return is ? bits | 1 << place : bits & ~(1 << place);
        }

        static int leastOfLaw(int what) {
            return what == LEAST ? 1 : 0;
        }

        static int mostOfLaw(int what) {
            switch (what) {
                case LEAST:
                    return MOST_LEAST;
                case ONCE:
                    return 1;
                case COURT:
                    return MOST_COURT;
                default:
                    return MOST_FINE;
            }
        }

        int law(int what) {
            switch (what) {
                case LEAST:
                    return least;
                case ONCE:
                    return once;
                case COURT:
                    return court;
                default:
                    return fine;
            }
        }

        void putLaw(int what, int v) {
            switch (what) {
                case LEAST:
                    least = v;
                    break;
                case ONCE:
                    once = v;
                    break;
                case COURT:
                    court = v;
                    break;
                default:
                    fine = v;
                    break;
            }
        }

        int lossBy(int bargain, int one) {
            int place = bargain * MOST_PEOPLE + one;
            return place >= 0 && place < losses.length ? losses[place] : 0;
        }

        int barredBy(int bargain) {
            return at(barred, bargain);
        }

        boolean isParty(int bargain, int one) {
            return bargain >= 0 && bargain < firsts.length && bargain < seconds.length
                    && (firsts[bargain] == one || seconds[bargain] == one);
        }

        int partyBits(int bargain) {
            return 1 << at(firsts, bargain) | 1 << at(seconds, bargain);
        }

        int gainsOf(int bargain) {
            return at(gainsOfFirst, bargain) + at(gainsOfSecond, bargain);
        }

        int valueBy(int bargain, int third) {
            return gainsOf(bargain) - lossBy(bargain, third);
        }

        boolean isGoodBy(int bargain, int third) {
            return lossBy(bargain, third) >= least && !isParty(bargain, third);
        }

        int goodBits(int bargain) {
            int bits = 0;
            for (int t = 0; t < people; t++) {
                if (isGoodBy(bargain, t)) {
                    bits |= 1 << t;
                }
            }
            return bits;
        }

        int bargainsGoodBy(int third) {
            int bits = 0;
            for (int b = 0; b < bargains; b++) {
                if (isGoodBy(b, third)) {
                    bits |= 1 << b;
                }
            }
            return bits;
        }

        /** Who MAY be named for a BARGAIN, some being taken already. */
        int mayBits(int bargain, int taken) {
            return once == 1 ? goodBits(bargain) & ~taken : goodBits(bargain);
        }

        boolean canBeSaid(int bargain, int third) {
            return lossBy(bargain, third) < least && !isParty(bargain, third);
        }

        /** What a BARGAIN SAID to be GOOD brings ahead of the FINE. */
        int shareOfSaid(int bargain, int third) {
            return (MOST_COURT - court) * valueBy(bargain, third);
        }

        /** A DRAW below count, which is 1 at least. */
        int draw(int count) {
            seed = seed * 1103515245 + 12345;
            return count > 0 ? (seed >>> 16) % count : 0;
        }

        void makeInTruth(int bargain, int third) {
            addTo(standings, at(firsts, bargain), at(gainsOfFirst, bargain));
            addTo(standings, at(seconds, bargain), at(gainsOfSecond, bargain));
            addTo(standings, third, -lossBy(bargain, third));
            addTo(times, third, 1);
            madeInAll++;
        }

        private static void addTo(int[] numbers, int i, int more) {
            put(numbers, i, at(numbers, i) + more);
        }
    }

    /** The KINDS of RULES, which stand one under another, and whom each names. */
    private static final class Rules {
        static final int RULE = 0;
        static final int MILD = 1;
        static final int SWORN = 2;
        static final int RICH = 3;
        static final int FOE = 4;
        static final int CHEAP = 5;
        static final int ROUND = 6;
        static final int MOST_A = 99;
        private static final int[] ABOVE = {NONE, RULE, MILD, MILD, RULE, MILD, RULE};

        /** Whether a KIND is another or stands under it. */
        static boolean isUnder(int kind, int other) {
            int above = kind;
            for (int step = 0; step < ABOVE.length && above != NONE; step++) {
                if (above == other) {
                    return true;
                }
                above = isBelow(above, ABOVE.length) ? ABOVE[above] : NONE;
            }
            return false;
        }

        /** The third that a RULE of a KIND by a names for a BARGAIN of those who MAY (bits). */
        static int thirdFor(Town town, int kind, int a, int bargain, int may) {
            if (kind == SWORN && hasBit(may, a)) {
                return a;
            }
            int third = foremost(town, kind, a, bargain, may);
            boolean isTooDear = kind == CHEAP && third != NONE && town.valueBy(bargain, third) < a;
            return isTooDear ? NONE : third;
        }

        /** The first of those with the greatest score. */
        static int foremost(Town town, int kind, int a, int bargain, int may) {
            int first = NONE;
            int greatest = 0;
            for (int t = 0; t < town.people; t++) {
                if (hasBit(may, t)) {
                    int score = score(town, kind, a, bargain, t);
                    if (first == NONE || score > greatest) {
                        first = t;
                        greatest = score;
                    }
                }
            }
            return first;
        }

        private static int score(Town town, int kind, int a, int bargain, int third) {
            switch (kind) {
                case RICH:
                    return at(town.standings, third);
                case FOE:
                    return town.lossBy(bargain, third);
                case ROUND:
                    return -stepsRound(third, a, town.people);
                default:
                    return -town.lossBy(bargain, third);
            }
        }

        /** How many steps on from the one of number a, round and round, a third comes. */
        private static int stepsRound(int third, int a, int people) {
            return people > 0 ? Math.floorMod(third - a, people) : 0;
        }
    }

    /** Which BARGAINS are made (bits), who is taken by them (bits), and for those made their thirds. */
    private static final class Week {
        static final int TELLINGS = 3;
        static final int VALUE = 0;
        private static final int MADE = 1;

        private final int[] thirds = new int[MOST_BARGAINS];
        private int made = 0;
        private int taken = 0;

        /** The WEEK told by a ROW: the first BARGAIN that CAN'T be, where this stops; NONE. */
        int fillTold(Town town, Shelves shelves, int s) {
            begin();
            for (int b = 0; b < town.bargains; b++) {
                long third = shelves.elementAt(s, b);
                if (third >= 0 && third < town.people) {
                    if (isBarred(town, b) || !hasBit(town.mayBits(b, taken), (int) third)) {
                        return b;
                    }
                    take(b, (int) third);
                }
            }
            return NONE;
        }

        void fillByRule(Town town, int kind, int a) {
            begin();
            for (int b = 0; b < town.bargains; b++) {
                if (!isBarred(town, b)) {
                    take(b, Rules.thirdFor(town, kind, a, b, town.mayBits(b, taken)));
                }
            }
        }

        void fillByDraws(Town town) {
            begin();
            for (int b = 0; b < town.bargains; b++) {
                int may = isBarred(town, b) ? 0 : town.mayBits(b, taken);
                if (may != 0) {
                    take(b, bitOfPlace(may, town.draw(Integer.bitCount(may))));
                }
            }
        }

        int tell(Town town, int what) {
            if (what == MADE) {
                return Integer.bitCount(made);
            }
            return what == VALUE ? sumOfValues(town) : taken;
        }

        /** What is made comes to be in truth: how many BARGAINS. */
        int comeTrue(Town town) {
            for (int b = 0; b < town.bargains; b++) {
                if (hasBit(made, b)) {
                    town.makeInTruth(b, at(thirds, b));
                }
            }
            town.weeksLived++;
            return Integer.bitCount(made);
        }

        private void begin() {
            made = 0;
            taken = 0;
        }

        private boolean isBarred(Town town, int bargain) {
            return (town.barredBy(bargain) & made) != 0;
        }

        private void take(int bargain, int third) {
            if (third != NONE) {
                put(thirds, bargain, third);
                made |= 1 << bargain;
                taken |= 1 << third;
            }
        }

        private int sumOfValues(Town town) {
            int sum = 0;
            for (int b = 0; b < town.bargains; b++) {
                if (hasBit(made, b)) {
                    sum += town.valueBy(b, at(thirds, b));
                }
            }
            return sum;
        }

        private static int bitOfPlace(int bits, int place) {
            int ahead = 0;
            for (int t = 0; t < MOST_PEOPLE; t++) {
                if (hasBit(bits, t)) {
                    if (ahead == place) {
                        return t;
                    }
                    ahead++;
                }
            }
            return NONE;
        }
    }

    /** SHELVES 0 to 7: NOTHING, a ROW, or a RULE each. */
    private static final class Shelves {
        static final int SORTS = 5;
        static final int WIDTH = 40;
        /** A RULE is held as this and its KIND, which is how holds() tells it. */
        private static final int RULE_BASE = 10;

        private final int[] held = new int[SHELVES];
        private final int[] sizes = new int[SHELVES];
        private final int[] numbers = new int[SHELVES];
        private final long[] elements = new long[SHELVES * WIDTH];

        Shelves() {
            for (int s = 0; s < held.length; s++) {
                held[s] = NONE;
            }
        }

        int heldIn(int s) {
            return isBelow(s, SHELVES) ? at(held, s) : NONE;
        }

        boolean holdsRow(int s) {
            return isBelow(heldIn(s), SORTS);
        }

        boolean holdsRule(int s) {
            return heldIn(s) >= RULE_BASE;
        }

        int rowRefusal(int s) {
            if (!isBelow(s, SHELVES)) {
                return BAD;
            }
            if (holdsRule(s)) {
                return OTHER;
            }
            return holdsRow(s) ? ALLOWED : NOTHING;
        }

        int ruleRefusal(int s) {
            if (!isBelow(s, SHELVES)) {
                return BAD;
            }
            if (holdsRow(s)) {
                return OTHER;
            }
            return holdsRule(s) ? ALLOWED : NOTHING;
        }

        int copyRefusal(int p, int q, int i, int j, int n) {
            if (!isBelow(p, SHELVES) || !isBelow(q, SHELVES)) {
                return BAD;
            }
            if (holdsRule(p) || holdsRule(q)) {
                return OTHER;
            }
            boolean areBothRows = holdsRow(p) && holdsRow(q);
            if (areBothRows && heldIn(p) != heldIn(q)) {
                return OTHER;
            }
            if (!areBothRows) {
                return NOTHING;
            }
            return isSpan(i, n, sizeOf(p)) && isSpan(j, n, sizeOf(q)) ? ALLOWED : BAD;
        }

        private static boolean isSpan(int from, int n, int size) {
            return from >= 0 && n >= 0 && n <= size - from;
        }

        int sizeOf(int s) {
            return holdsRow(s) ? at(sizes, s) : 0;
        }

        int kindIn(int s) {
            return heldIn(s) - RULE_BASE;
        }

        int numberIn(int s) {
            return at(numbers, s);
        }

        int countHeld() {
            int count = 0;
            for (int s = 0; s < SHELVES; s++) {
                if (heldIn(s) != NONE) {
                    count++;
                }
            }
            return count;
        }

        void putRule(int s, int kind, int a) {
            put(held, s, RULE_BASE + kind);
            put(numbers, s, a);
        }

        void putRow(int s, int sort, int n) {
            put(held, s, sort);
            put(sizes, s, n);
            for (int i = 0; i < n; i++) {
                putElement(s, i, 0);
            }
        }

        void putElement(int s, int i, long v) {
            int place = s * WIDTH + i;
            if (place >= 0 && place < elements.length) {
                elements[place] = lowestBits(heldIn(s), v);
            }
        }

        long elementAt(int s, int i) {
            if (!isBelow(i, sizeOf(s))) {
                return 0;
            }
            int place = s * WIDTH + i;
            return place >= 0 && place < elements.length ? elements[place] : 0;
        }

        void move(int p, int q, int i, int j, int n) {
            // From the end that is not overwritten ahead of its turn, should the two overlap.
            for (int k = 0; k < n; k++) {
                int step = i < j ? n - 1 - k : k;
                putElement(q, j + step, elementAt(p, i + step));
            }
        }

        private static long lowestBits(int sort, long v) {
            switch (sort) {
                case 0:
                    return (byte) v;
                case 1:
                    return (short) v;
                case 2:
                    return (int) v;
                case 4:
                    return v != 0 ? 1 : 0;
                default:
                    return v;
            }
        }
    }

    /** THE TAPE, and how a TOWN is read from it. */
    private static final class Reader {
        private static final int LENGTH = 250;
        private static final int BLANK = 32;
        private static final int MOST_DIGITS = 3;
        private static final int END = 0;
        private static final int WORD = 1;
        private static final int NUMBER = 2;
        private static final int SIGN = 3;
        private static final int UNKNOWN = 4;

        private final int[] tape = new int[LENGTH];
        private int size = 0;
        private int place = 0;
        private int token = END;
        private int start = 0;
        private int fault = NONE;

        boolean isFull() {
            return size >= LENGTH;
        }

        int add(int letter) {
            put(tape, size, letter);
            size++;
            return size;
        }

        int clear() {
            int ahead = size;
            size = 0;
            return ahead;
        }

        /** How many STATEMENTS came to the town, or FAULT_BASE less the FAULT. */
        int read(Town town) {
            place = 0;
            fault = NONE;
            step();
            int count = 0;
            boolean isMore = true;
            while (isMore && count <= LENGTH) {
                readStatement(town);
                count++;
                isMore = fault == NONE && token == SIGN;
                if (isMore) {
                    step();
                }
            }
            if (token != END) {
                fail();
            }
            return fault == NONE ? count : FAULT_BASE - fault;
        }

        private void readStatement(Town town) {
            if (isWord("one")) {
                readOne(town);
            } else if (isWord("deal")) {
                readDeal(town);
            } else if (isWord("gains")) {
                readGains(town);
            } else if (isWord("bars")) {
                readBars(town);
            } else if (isWord("law")) {
                readLaw(town, Town.LEAST);
            } else if (isWord("once")) {
                readLaw(town, Town.ONCE);
            } else if (isWord("court")) {
                readLaw(town, Town.COURT);
            } else if (isWord("fine")) {
                readLaw(town, Town.FINE);
            } else {
                fail();
            }
        }

        private void readOne(Town town) {
            if (town.people >= MOST_PEOPLE) {
                fail();
            } else {
                town.addPerson();
                step();
            }
        }

        private void readDeal(Town town) {
            if (town.bargains >= MOST_BARGAINS) {
                fail();
                return;
            }
            step();
            int p = readNumber(0, town.people - 1, NONE);
            int q = readNumber(0, town.people - 1, p);
            int gainOfP = readNumber(0, MOST_GAIN, NONE);
            int gainOfQ = readNumber(0, MOST_GAIN, NONE);
            if (fault != NONE) {
                return;
            }
            int bargain = town.addBargain(p, q, gainOfP, gainOfQ);
            for (int n = 0; n < LENGTH && fault == NONE && isWord("hurts"); n++) {
                step();
                int one = readNumber(0, town.people - 1, NONE);
                int loss = readNumber(0, MOST_LOSS, NONE);
                if (fault == NONE) {
                    town.putLoss(bargain, one, loss);
                }
            }
        }

        private void readGains(Town town) {
            step();
            int bargain = readNumber(0, town.bargains - 1, NONE);
            int one = readNumber(0, town.people - 1, NONE);
            int gain = readNumber(0, MOST_LOSS, NONE);
            if (fault == NONE) {
                town.putLoss(bargain, one, -gain);
            }
        }

        private void readBars(Town town) {
            step();
            int bargain = readNumber(0, town.bargains - 1, NONE);
            int other = readNumber(0, town.bargains - 1, bargain);
            if (fault == NONE) {
                town.putBar(bargain, other, true);
            }
        }

        private void readLaw(Town town, int what) {
            step();
            int v = readNumber(Town.leastOfLaw(what), Town.mostOfLaw(what), NONE);
            if (fault == NONE) {
                town.putLaw(what, v);
            }
        }

        /** The NUMBER that stands here, which may be low to high, all but one; else this is the FAULT. */
        private int readNumber(int low, int high, int but) {
            int v = token == NUMBER ? numberHere() : NONE;
            if (!isWithin(v, low, high) || v == but) {
                fail();
                return NONE;
            }
            step();
            return v;
        }

        private int numberHere() {
            if (place - start > MOST_DIGITS) {
                return NONE;
            }
            int v = 0;
            for (int i = start; i < place; i++) {
                v = v * 10 + (at(tape, i) - '0');
            }
            return v;
        }

        /** Only the first FAULT counts: what is read behind it is not what was meant. */
        private void fail() {
            if (fault == NONE) {
                fault = start;
            }
        }

        private boolean isWord(String word) {
            if (token != WORD || place - start != word.length()) {
                return false;
            }
            for (int i = 0; i < word.length(); i++) {
                if (at(tape, start + i) != word.charAt(i)) {
                    return false;
                }
            }
            return true;
        }

        private void step() {
            while (place < size && at(tape, place) == BLANK) {
                place++;
            }
            start = place;
            token = tokenOf(place);
            if (token == END) {
                return;
            }
            place++;
            while ((token == WORD || token == NUMBER) && place < size && tokenOf(place) == token) {
                place++;
            }
        }

        /** The sort of TOKEN that the byte of a place begins. */
        private int tokenOf(int i) {
            if (i >= size) {
                return END;
            }
            int letter = at(tape, i);
            if (isWithin(letter, 'a', 'z')) {
                return WORD;
            }
            if (isWithin(letter, '0', '9')) {
                return NUMBER;
            }
            return letter == ';' ? SIGN : UNKNOWN;
        }
    }

    /**
     * BEST, exactly. For every set of BARGAINS (bits) the best way to make just these is kept, while
     * the PEOPLE come one after another to be named. A way is one number: its VALUE times SCALE, less
     * what decides between ways of the same VALUE, which is always below SCALE.
     */
    private static final class Search {
        private static final int SETS = 1 << MOST_BARGAINS;
        private static final long SCALE = 1L << 32;
        /** So far down that no sum of VALUES and costs lifts it up to a way that is one. */
        private static final long NO_WAY = Long.MIN_VALUE / 2;
        private static final int BITS_OF_THIRD = 4;
        private static final int COST_OF_EACH = 1 << MOST_PEOPLE;

        private final boolean[] apart = new boolean[SETS];
        private final long[] ways = new long[SETS];
        /** The same with the newest third named at least once. */
        private final long[] waysNaming = new long[SETS];
        private final long[] keys = new long[MOST_BARGAINS];
        private final int[] weights = new int[MOST_BARGAINS];

        int bestValue(Town town, int who) {
            return valueOf(greatestKey(town, who, true));
        }

        int bestThird(Town town, int bargain) {
            long code = codeOf(greatestKey(town, town.everybody(), true));
            return (int) (code >> shiftOf(bargain) & (1 << BITS_OF_THIRD) - 1) - 1;
        }

        /** A WEEK of BEST's VALUE that names the fewest names just those whom it needs. */
        int fewestBits(Town town) {
            return (int) (codeOf(greatestKey(town, town.everybody(), false)) & COST_OF_EACH - 1);
        }

        int greatestGains(Town town) {
            for (int b = 0; b < town.bargains; b++) {
                put(weights, b, town.gainsOf(b));
            }
            return heaviest(town);
        }

        int greatestHarm(Town town, int one) {
            int most = 0;
            for (int b = 0; b < town.bargains; b++) {
                int loss = town.isGoodBy(b, one) ? town.lossBy(b, one) : 0;
                put(weights, b, loss);
                most = Math.max(most, loss);
            }
            return town.once == 1 ? most : heaviest(town);
        }

        private static int valueOf(long key) {
            return (int) -Math.floorDiv(-key, SCALE);
        }

        private static long codeOf(long key) {
            return valueOf(key) * SCALE - key;
        }

        private static int shiftOf(int bargain) {
            return BITS_OF_THIRD * (MOST_BARGAINS - 1 - bargain);
        }

        /** The greatest sum of the weights of a set of BARGAINS no two of which BAR one another. */
        private int heaviest(Town town) {
            int sets = findApart(town);
            int most = 0;
            ways[0] = 0;
            for (int set = 1; set < sets; set++) {
                ways[set] = ways[set & set - 1] + at(weights, Integer.numberOfTrailingZeros(set));
                if (apart[set]) {
                    most = Math.max(most, (int) ways[set]);
                }
            }
            return most;
        }

        /** By rows the first of the same VALUE is sought, else the one with the fewest named. */
        private long greatestKey(Town town, int who, boolean isByRow) {
            int sets = findApart(town);
            for (int set = 0; set < sets; set++) {
                ways[set] = NO_WAY;
            }
            ways[0] = 0;
            for (int t = 0; t < town.people; t++) {
                if (hasBit(who, t)) {
                    fillKeys(town, t, isByRow);
                    int cost = isByRow ? 0 : COST_OF_EACH + (1 << t);
                    addThird(town.bargainsGoodBy(t), cost, town.once == 0, sets);
                }
            }
            long greatest = 0;
            for (int set = 0; set < sets; set++) {
                greatest = Math.max(greatest, ways[set]);
            }
            return greatest;
        }

        /** Which sets have no two that BAR one another: how many sets there are. */
        private int findApart(Town town) {
            int sets = Math.min(1 << town.bargains, SETS);
            apart[0] = true;
            for (int set = 1; set < sets; set++) {
                int rest = set & set - 1;
                int barred = town.barredBy(Integer.numberOfTrailingZeros(set));
                apart[set] = apart[rest] && (barred & rest) == 0;
            }
            return sets;
        }

        private void fillKeys(Town town, int third, boolean isByRow) {
            for (int b = 0; b < town.bargains && b < keys.length; b++) {
                long code = isByRow ? (third + 1L) << shiftOf(b) : 0;
                keys[b] = town.valueBy(b, third) * SCALE - code;
            }
        }

        private void addThird(int good, int cost, boolean isOften, int sets) {
            for (int set = 0; set < sets; set++) {
                waysNaming[set] = NO_WAY;
                int open = apart[set] ? set & good : 0;
                for (int b = 0; b < keys.length && open >> b != 0; b++) {
                    if ((open >> b & 1) == 1) {
                        int less = set & ~(1 << b);
                        long way = ways[less] - cost;
                        if (isOften) {
                            way = Math.max(way, waysNaming[less]);
                        }
                        waysNaming[set] = Math.max(waysNaming[set], way + keys[b]);
                    }
                }
            }
            for (int set = 0; set < sets; set++) {
                ways[set] = Math.max(ways[set], waysNaming[set]);
            }
        }
    }
}
