import java.util.ArrayList;
import java.util.List;
import java.util.Random;
import java.util.regex.Matcher;
import java.util.regex.Pattern;

/**
 * Random runs of calls, each answer held against a model that tries everything: all WEEKS, all sets.
 * Arguments are mostly such as may be, some are not, a few are as far out as an int goes.
 */
public final class OracleTest {
    private static final int CALLS = 512;
    private static final int MOST_TRIED = 20000;
    private static int wrong = 0;

    public static void main(String[] args) {
        for (int seed = 1; seed <= 1000 && wrong < 10; seed++) {
            run(seed);
        }
        System.out.println(wrong == 0 ? "as the model has it" : wrong + " runs are not as the model has it");
        if (wrong != 0) {
            System.exit(1);
        }
    }

    private static void run(int seed) {
        Random random = new Random(seed);
        NeedsALoser x = new NeedsALoser();
        Model model = new Model();
        // Small towns often, so that the model can try everything; full ones now and then.
        int people = seed % 40 == 0 ? 7 : 3 + random.nextInt(4);
        int bargains = seed % 40 == 0 ? 6 : random.nextInt(6);
        if (seed % 10 == 5) {
            // One more of each than there is room for.
            people = 8;
            bargains = 8;
        }
        Caller caller = new Caller(random, x, model, people, bargains);
        while (caller.calls < CALLS) {
            String call = caller.call();
            if (call != null) {
                wrong++;
                System.out.println("run " + seed + ", call " + caller.calls + ": " + call);
                return;
            }
        }
    }

    /** One random call at a time, of both; null if they agree. */
    private static final class Caller {
        final Random random;
        final NeedsALoser x;
        final Model m;
        final int people;
        final int bargains;
        /** How many calls the object was used for: what it answers after 512 is free. */
        int calls = 0;

        Caller(Random random, NeedsALoser x, Model m, int people, int bargains) {
            this.random = random;
            this.x = x;
            this.m = m;
            this.people = people;
            this.bargains = bargains;
        }

        int any(int low, int high) {
            int luck = random.nextInt(60);
            if (luck == 0) {
                return random.nextBoolean() ? low - 1 : high + 1;
            }
            if (luck == 1 && random.nextInt(4) == 0) {
                int[] far = {Integer.MIN_VALUE, Integer.MAX_VALUE, -1, 31, 32, 33, 64, 1 << 16};
                return far[random.nextInt(far.length)];
            }
            return high < low ? low : low + random.nextInt(high - low + 1);
        }

        int person() {
            return any(0, m.people.size() - 1);
        }

        int deal() {
            return any(0, m.deals.size() - 1);
        }

        int shelf() {
            return any(0, 7);
        }

        boolean isRoomFor(int more) {
            return calls + more <= CALLS;
        }

        String same(String call, long got, long want) {
            calls++;
            return got == want ? null : call + " answered " + got + ", the model " + want;
        }

        String call() {
            if (m.people.size() < people && random.nextInt(3) == 0) {
                return same("one", x.one(), m.one());
            }
            if (m.deals.size() < bargains && random.nextInt(3) == 0) {
                int p = person();
                int q = person();
                int g = any(0, 30);
                int h = any(0, 99);
                return same("bargain", x.bargain(p, q, g, h), m.bargain(p, q, g, h));
            }
            int sort = random.nextInt(7);
            if (sort == 4 && m.weeksAtMost() > MOST_TRIED) {
                sort = 5;
            }
            switch (sort) {
                case 0:
                    return shelfCall();
                case 1:
                    return townCall();
                case 2:
                    return random.nextInt(3) == 0 ? text() : townCall();
                case 3:
                    return weekCall();
                case 4:
                    return bestCall();
                case 5:
                    return lookCall();
                default:
                    return courtCall();
            }
        }

        String shelfCall() {
            int s = shelf();
            int t = shelf();
            int i = any(0, 8);
            int j = any(0, 8);
            int n = any(0, 6);
            int sort = any(0, 4);
            int kind = any(1, 6);
            long v = random.nextInt(3) == 0 ? random.nextLong() : any(-1, 8);
            switch (random.nextInt(9)) {
                case 0:
                    n = any(bargains, random.nextInt(10) == 0 ? 40 : bargains + 3);
                    return same("row", x.row(s, sort, n), m.row(s, sort, n));
                case 1:
                case 2:
                    return same("set " + s + " " + i + " " + v, x.set(s, i, v), m.set(s, i, v));
                case 3:
                    return same("copy", x.copy(s, t, i, j, n), m.copy(s, t, i, j, n));
                case 4:
                    return same("copy in one", x.copy(s, s, i, j, n), m.copy(s, s, i, j, n));
                case 5:
                    return same("element " + s + " " + i, x.element(s, i), m.element(s, i));
                case 6:
                    return same("holds", x.holds(s), m.holds(s));
                case 7:
                    n = any(0, random.nextBoolean() ? 10 : 99);
                    return same("rule", x.rule(s, kind, n), m.rule(s, kind, n));
                default:
                    kind = any(0, 6);
                    return same("says " + s + " " + kind, x.says(s, kind), m.says(s, kind));
            }
        }

        String townCall() {
            int b = deal();
            int c = deal();
            int t = person();
            int v = random.nextInt(3) == 0 ? any(-99, 99) : any(-3, 12);
            switch (random.nextInt(12)) {
                case 0:
                case 1:
                case 2:
                case 3:
                case 4:
                    return same("hurts", x.hurts(b, t, v), m.hurts(b, t, v));
                case 5:
                    boolean is = random.nextInt(3) == 0;
                    return same("bars", x.bars(b, c, is), m.bars(b, c, is));
                case 6:
                    return same("ask 0", x.ask(0, v), m.ask(0, v));
                case 7:
                    v = any(0, 10);
                    int what = any(1, 2);
                    return same("ask", x.ask(what, v), m.ask(what, v));
                case 8:
                    v = any(0, random.nextBoolean() ? 999 : 20);
                    what = any(3, 3);
                    return same("ask 3", x.ask(what, v), m.ask(what, v));
                case 9:
                    return random.nextInt(4) == 0 ? same("image", x.image(), m.image())
                            : random.nextInt(4) == 0 ? same("back", x.back(), m.back()) : null;
                case 10:
                    v = random.nextInt();
                    return random.nextInt(4) == 0 ? same("seed", x.seed(v), m.seed(v)) : null;
                default:
                    return status();
            }
        }

        String status() {
            if (!isRoomFor(19)) {
                return null;
            }
            for (int what = -1; what < 18; what++) {
                String fault = same("status " + what, x.status(what), m.status(what));
                if (fault != null) {
                    return fault;
                }
            }
            return null;
        }

        String text() {
            String[] parts = {"one", "deal ", "hurts ", "gains ", "bars ", "law ", "once ", "court ", "fine ", ";", " "};
            StringBuilder text = new StringBuilder();
            int count = 1 + random.nextInt(4);
            for (int k = 0; k < count; k++) {
                text.append(k == 0 ? "" : random.nextInt(15) == 0 ? "" : ";");
                switch (random.nextInt(9)) {
                    case 0:
                        text.append(m.people.size() < people ? "one" : "law 1");
                        text.append(people > 7 && random.nextInt(4) == 0 ? ";one;one;one" : "");
                        break;
                    case 1:
                        text.append("deal ").append(person()).append(' ').append(person()).append(' ').append(any(0, 99));
                        text.append(' ').append(any(0, 99));
                        for (int h = random.nextInt(3); h > 0; h--) {
                            text.append(" hurts ").append(person()).append(' ').append(any(0, 99));
                        }
                        break;
                    case 2:
                        text.append("gains ").append(deal()).append("  ").append(person()).append(' ').append(any(0, 99));
                        break;
                    case 3:
                        text.append("bars ").append(deal()).append(' ').append(deal());
                        break;
                    case 4:
                        text.append("law ").append(any(1, 9));
                        break;
                    case 5:
                        text.append("once").append(any(0, 1));
                        break;
                    case 6:
                        text.append("court ").append(any(0, 10)).append(' ');
                        break;
                    case 7:
                        text.append(" fine 0").append(any(0, 99));
                        break;
                    default:
                        text.append(parts[random.nextInt(parts.length)]);
                        break;
                }
            }
            if (random.nextInt(4) == 0 && text.length() > 0) {
                int place = random.nextInt(text.length());
                text.setCharAt(place, "abz019; ~A-".charAt(random.nextInt(11)));
            }
            if (m.deals.size() >= bargains && text.indexOf("deal") >= 0 || !isRoomFor(text.length() + 2)) {
                return null;
            }
            String fault = null;
            for (int k = 0; k < text.length() && fault == null; k++) {
                int letter = text.charAt(k);
                fault = same("feed", x.feed(letter), m.feed(letter));
            }
            if (fault == null && random.nextInt(20) == 0) {
                fault = same("wipe", x.wipe(), m.wipe());
            }
            return fault != null ? fault : same("town of '" + m.tape + "'", x.town(), m.town());
        }

        String weekCall() {
            int s = shelf();
            int what = any(0, 2);
            int n = any(1, random.nextInt(5) == 0 ? 30 : 3);
            int set = any(0, (1 << m.people.size()) - 1);
            int b = deal();
            switch (random.nextInt(11)) {
                case 0:
                    return same("name", x.name(s, b, set), m.name(s, b, set));
                case 1:
                    return same("judge " + s, x.judge(s), m.judge(s));
                case 2:
                    return same("told", x.told(s, what), m.told(s, what));
                case 3:
                    return same("by", x.by(s, what), m.by(s, what));
                case 4:
                    return same("head", x.head(), m.head());
                case 5:
                    return same("lives", x.lives(s), m.lives(s));
                case 6:
                    return same("makes", x.makes(s), m.makes(s));
                case 7:
                    return same("week", x.week(), m.weeks(1));
                case 8:
                    return same("weeks", x.weeks(n), m.weeks(n));
                case 9:
                    return goodRow(s);
                default:
                    return same("gap", x.gap(s), m.gap(s));
            }
        }

        /** A told WEEK that often can be, which numbers by chance seldom are. */
        String goodRow(int s) {
            int n = m.deals.size();
            if (!isRoomFor(n + 4)) {
                return null;
            }
            String fault = same("row", x.row(s, 0, n), m.row(s, 0, n));
            for (int b = 0; b < n && fault == null; b++) {
                List<Integer> can = new ArrayList<>(m.goodFor(m.deals.get(b)));
                can.add(-1);
                int v = can.get(random.nextInt(can.size()));
                fault = same("set", x.set(s, b, v), m.set(s, b, v));
            }
            int what = random.nextInt(3);
            fault = fault != null ? fault : same("judge", x.judge(s), m.judge(s));
            fault = fault != null ? fault : same("told", x.told(s, what), m.told(s, what));
            return fault != null ? fault : same("makes", x.makes(s), m.makes(s));
        }

        String bestCall() {
            int t = person();
            int b = deal();
            int l = any(1, random.nextBoolean() ? 12 : 99);
            switch (random.nextInt(9)) {
                case 0:
                    return same("best", x.best(), m.best());
                case 1:
                case 2:
                    return same("bestOf", x.bestOf(b), m.bestOf(b));
                case 3:
                    return same("worth", x.worth(t), m.worth(t));
                case 4:
                    return same("dearest", x.dearest(), m.dearest());
                case 5:
                    return same("fewest", x.fewest(), m.fewest());
                case 6:
                    return same("under", x.under(l), m.under(l));
                case 7:
                    return random.nextInt(4) == 0 ? same("bestLaw", x.bestLaw(), m.bestLaw()) : null;
                default:
                    return same("hiding", x.hiding(b, t), m.hiding(b, t));
            }
        }

        String lookCall() {
            int t = person();
            int b = deal();
            int what = any(0, 4);
            switch (random.nextInt(14)) {
                case 0:
                    return same("bargainOf", x.bargainOf(b, what), m.bargainOf(b, what));
                case 1:
                    return same("lossOf", x.lossOf(b, t), m.lossOf(b, t));
                case 2:
                    return same("standing", x.standing(t), m.standing(t));
                case 3:
                    return same("good", x.good(b), m.good(b));
                case 4:
                    return same("value", x.value(b, t), m.value(b, t));
                case 5:
                    return same("richest", x.richest(), m.richest());
                case 6:
                    return same("alone", x.alone(t), m.alone(t));
                case 7:
                    return same("party", x.party(t), m.party(t));
                case 8:
                    return same("fair", x.fair(), m.fair());
                case 9:
                    return same("never", x.never(), m.never());
                case 10:
                    return same("free", x.free(), m.free());
                case 11:
                    return same("hated", x.hated(), m.hated());
                case 12:
                    return same("named", x.named(t), m.named(t));
                default:
                    return same("rings", x.rings(), m.rings());
            }
        }

        String courtCall() {
            int t = person();
            int b = deal();
            int c = deal();
            int what = any(0, 1);
            switch (random.nextInt(7)) {
                case 0:
                    return same("said", x.said(b, t), m.said(b, t));
                case 1:
                    return same("dares", x.dares(), m.dares());
                case 2:
                    return same("deters", x.deters(), m.deters());
                case 3:
                    return m.weeksAtMost() > MOST_TRIED ? null : same("harm", x.harm(t), m.harm(t));
                case 4:
                    return m.weeksAtMost() > MOST_TRIED ? null : same("worst", x.worst(), m.worst());
                default:
                    return same("cross", x.cross(b, c, what), m.cross(b, c, what));
            }
        }
    }

    private static final class Person {
        int standing;
        int named;

        Person twin() {
            Person twin = new Person();
            twin.standing = standing;
            twin.named = named;
            return twin;
        }
    }

    private static final class Deal {
        int p;
        int q;
        int gainOfP;
        int gainOfQ;
        int[] losses = new int[7];
        List<Integer> bars = new ArrayList<>();

        Deal twin() {
            Deal twin = new Deal();
            twin.p = p;
            twin.q = q;
            twin.gainOfP = gainOfP;
            twin.gainOfQ = gainOfQ;
            twin.losses = losses.clone();
            twin.bars = new ArrayList<>(bars);
            return twin;
        }
    }

    private static final class Fault extends Exception {
        private static final long serialVersionUID = 1L;
        final int place;

        Fault(int place) {
            this.place = place;
        }
    }

    /** The document in its plainest form, all tried out. */
    private static final class Model {
        List<Person> people = new ArrayList<>();
        List<Deal> deals = new ArrayList<>();
        int[] law = {1, 1, 5, 50};
        int seed = 1;
        int weeks;
        int made;
        Model kept;
        Object[] shelves = new Object[8];
        int[] sorts = new int[8];
        StringBuilder tape = new StringBuilder();
        int[] refusals = new int[7];

        void become(Model o) {
            people = new ArrayList<>();
            for (Person p : o.people) {
                people.add(p.twin());
            }
            deals = new ArrayList<>();
            for (Deal d : o.deals) {
                deals.add(d.twin());
            }
            law = o.law.clone();
            seed = o.seed;
            weeks = o.weeks;
            made = o.made;
        }

        int no(int refusal) {
            refusals[-refusal]++;
            return refusal;
        }

        int low(int refusal) {
            return no(refusal) - 1000000;
        }

        boolean isOne(int t) {
            return t >= 0 && t < people.size();
        }

        boolean isDeal(int b) {
            return b >= 0 && b < deals.size();
        }

        boolean isShelf(int s) {
            return s >= 0 && s < 8;
        }

        boolean in(int v, int low, int high) {
            return v >= low && v <= high;
        }

        int want(int s, Class<?> kind) {
            if (!isShelf(s)) {
                return -2;
            }
            return shelves[s] == null ? -4 : shelves[s].getClass() == kind ? 0 : -3;
        }

        int row(int s, int sort, int n) {
            if (!isShelf(s) || !in(sort, 0, 4) || !in(n, 0, 40)) {
                return no(-2);
            }
            shelves[s] = new long[n];
            sorts[s] = sort;
            return 1;
        }

        int set(int s, int i, long v) {
            int no = want(s, long[].class);
            if (no != 0) {
                return no(no);
            }
            long[] row = (long[]) shelves[s];
            if (!in(i, 0, row.length - 1)) {
                return no(-2);
            }
            int bits = new int[] {8, 16, 32, 64, 0}[sorts[s]];
            row[i] = bits == 0 ? (v == 0 ? 0 : 1) : v << (64 - bits) >> (64 - bits);
            return 1;
        }

        int copy(int p, int q, int i, int j, int n) {
            if (!isShelf(p) || !isShelf(q)) {
                return no(-2);
            }
            if (want(p, long[].class) == -3 || want(q, long[].class) == -3) {
                return no(-3);
            }
            if (shelves[p] != null && shelves[q] != null && sorts[p] != sorts[q]) {
                return no(-3);
            }
            if (shelves[p] == null || shelves[q] == null) {
                return no(-4);
            }
            long[] from = ((long[]) shelves[p]).clone();
            long[] to = (long[]) shelves[q];
            if (i < 0 || j < 0 || n < 0 || (long) i + n > from.length || (long) j + n > to.length) {
                return no(-2);
            }
            for (int k = 0; k < n; k++) {
                to[j + k] = from[i + k];
            }
            return n;
        }

        long element(int s, int i) {
            return want(s, long[].class) == 0 && in(i, 0, ((long[]) shelves[s]).length - 1) ? ((long[]) shelves[s])[i] : 0;
        }

        int holds(int s) {
            if (!isShelf(s) || shelves[s] == null) {
                return -1;
            }
            return want(s, long[].class) == 0 ? sorts[s] : 10 + ((int[]) shelves[s])[0];
        }

        int rule(int s, int kind, int a) {
            if (!isShelf(s) || !in(kind, 1, 6) || !in(a, 0, 99)) {
                return no(-2);
            }
            shelves[s] = new int[] {kind, a};
            return 1;
        }

        int says(int s, int kind) {
            if (!isShelf(s) || !in(kind, 0, 6)) {
                return no(-2);
            }
            int no = want(s, int[].class);
            if (no != 0) {
                return no(no);
            }
            int[] rule = (int[]) shelves[s];
            boolean mild = rule[0] == 2 || rule[0] == 3 || rule[0] == 5;
            if (!(kind == 0 || kind == rule[0] || kind == 1 && mild)) {
                return no(-3);
            }
            if (kind == 0) {
                return rule[1];
            }
            return deals.isEmpty() ? no(-5) : third(rule, deals.get(0), new ArrayList<>());
        }

        int one() {
            if (people.size() == 7) {
                return no(-6);
            }
            people.add(new Person());
            return people.size() - 1;
        }

        int bargain(int p, int q, int g, int h) {
            if (!isOne(p) || !isOne(q) || p == q || !in(g, 0, 99) || !in(h, 0, 99)) {
                return no(-2);
            }
            if (deals.size() == 7) {
                return no(-6);
            }
            Deal d = new Deal();
            d.p = p;
            d.q = q;
            d.gainOfP = g;
            d.gainOfQ = h;
            deals.add(d);
            return deals.size() - 1;
        }

        int hurts(int b, int t, int v) {
            if (!isDeal(b) || !isOne(t) || !in(v, -99, 99)) {
                return no(-2);
            }
            deals.get(b).losses[t] = v;
            return 1;
        }

        int bars(int b, int c, boolean is) {
            if (!isDeal(b) || !isDeal(c) || b == c) {
                return no(-2);
            }
            if (deals.get(b).bars.contains(c) == is) {
                return 0;
            }
            if (is) {
                deals.get(b).bars.add(c);
                deals.get(c).bars.add(b);
            } else {
                deals.get(b).bars.remove((Integer) c);
                deals.get(c).bars.remove((Integer) b);
            }
            return 1;
        }

        int ask(int what, int v) {
            if (!in(what, 0, 3) || !in(v, what == 0 ? 1 : 0, new int[] {99, 1, 10, 999}[what])) {
                return no(-2);
            }
            int was = law[what];
            law[what] = v;
            return was;
        }

        int feed(int letter) {
            if (!in(letter, 0, 255)) {
                return no(-2);
            }
            if (tape.length() == 250) {
                return no(-6);
            }
            tape.append((char) letter);
            return tape.length();
        }

        int wipe() {
            int size = tape.length();
            tape.setLength(0);
            return size;
        }

        int town() {
            Model copy = new Model();
            copy.become(this);
            String text = tape.toString();
            tape.setLength(0);
            try {
                int count = copy.read(text);
                become(copy);
                return count;
            } catch (Fault fault) {
                return no(-2) - 18 - fault.place;
            }
        }

        int read(String text) throws Fault {
            List<String> tokens = new ArrayList<>();
            List<Integer> places = new ArrayList<>();
            Matcher matcher = Pattern.compile("[a-z]+|[0-9]+|[^ ]", Pattern.DOTALL).matcher(text);
            while (matcher.find()) {
                tokens.add(matcher.group());
                places.add(matcher.start());
            }
            tokens.add("");
            places.add(text.length());
            int[] at = {0};
            int count = 0;
            do {
                count++;
                String word = tokens.get(at[0]);
                Fault here = new Fault(places.get(at[0]));
                at[0]++;
                switch (word) {
                    case "one":
                        if (one() < 0) {
                            throw here;
                        }
                        break;
                    case "deal":
                        if (deals.size() == 7) {
                            throw here;
                        }
                        int p = number(tokens, places, at, 0, people.size() - 1, -1);
                        int q = number(tokens, places, at, 0, people.size() - 1, p);
                        int g = number(tokens, places, at, 0, 99, -1);
                        int b = bargain(p, q, g, number(tokens, places, at, 0, 99, -1));
                        while (tokens.get(at[0]).equals("hurts")) {
                            at[0]++;
                            int t = number(tokens, places, at, 0, people.size() - 1, -1);
                            hurts(b, t, number(tokens, places, at, 0, 99, -1));
                        }
                        break;
                    case "gains":
                        int d = number(tokens, places, at, 0, deals.size() - 1, -1);
                        int t = number(tokens, places, at, 0, people.size() - 1, -1);
                        hurts(d, t, -number(tokens, places, at, 0, 99, -1));
                        break;
                    case "bars":
                        int e = number(tokens, places, at, 0, deals.size() - 1, -1);
                        bars(e, number(tokens, places, at, 0, deals.size() - 1, e), true);
                        break;
                    case "law":
                        ask(0, number(tokens, places, at, 1, 99, -1));
                        break;
                    case "once":
                        ask(1, number(tokens, places, at, 0, 1, -1));
                        break;
                    case "court":
                        ask(2, number(tokens, places, at, 0, 10, -1));
                        break;
                    case "fine":
                        ask(3, number(tokens, places, at, 0, 999, -1));
                        break;
                    default:
                        throw here;
                }
                at[0]++;
            } while (tokens.get(at[0] - 1).equals(";"));
            if (!tokens.get(at[0] - 1).isEmpty()) {
                throw new Fault(places.get(at[0] - 1));
            }
            return count;
        }

        int number(List<String> tokens, List<Integer> places, int[] at, int low, int high, int but) throws Fault {
            String token = tokens.get(at[0]);
            Fault here = new Fault(places.get(at[0]));
            at[0]++;
            if (!token.matches("[0-9]{1,3}") || !in(Integer.parseInt(token), low, high) || Integer.parseInt(token) == but) {
                throw here;
            }
            return Integer.parseInt(token);
        }

        int status(int what) {
            int held = 0;
            for (Object shelf : shelves) {
                held += shelf == null ? 0 : 1;
            }
            int[] told = {people.size(), deals.size(), weeks, made, law[0], law[1], law[2], law[3], tape.length(), seed, held,
                -1, refusals[2], refusals[3], refusals[4], refusals[5], refusals[6]};
            return in(what, 0, told.length - 1) ? told[what] : -1;
        }

        int bits(List<Integer> places) {
            int bits = 0;
            for (int place : places) {
                bits |= 1 << place;
            }
            return bits;
        }

        int bargainOf(int b, int what) {
            if (!isDeal(b) || !in(what, 0, 4)) {
                return no(-2);
            }
            Deal d = deals.get(b);
            return new int[] {d.p, d.q, d.gainOfP, d.gainOfQ, bits(d.bars)}[what];
        }

        int lossOf(int b, int t) {
            return isDeal(b) && isOne(t) ? deals.get(b).losses[t] : low(-2);
        }

        int standing(int t) {
            return isOne(t) ? people.get(t).standing : low(-2);
        }

        List<Integer> goodFor(Deal d) {
            List<Integer> good = new ArrayList<>();
            for (int t = 0; t < people.size(); t++) {
                if (t != d.p && t != d.q && d.losses[t] >= law[0]) {
                    good.add(t);
                }
            }
            return good;
        }

        int good(int b) {
            return isDeal(b) ? bits(goodFor(deals.get(b))) : no(-2);
        }

        int valueOf(Deal d, int t) {
            return d.gainOfP + d.gainOfQ - d.losses[t];
        }

        int value(int b, int t) {
            if (!isDeal(b) || !isOne(t)) {
                return low(-2);
            }
            return goodFor(deals.get(b)).contains(t) ? valueOf(deals.get(b), t) : low(-5);
        }

        List<Integer> may(Deal d, List<Integer> named) {
            List<Integer> may = goodFor(d);
            if (law[1] == 1) {
                may.removeAll(named);
            }
            return may;
        }

        int third(int[] rule, Deal d, List<Integer> named) {
            List<Integer> may = may(d, named);
            if (may.isEmpty()) {
                return -1;
            }
            int mild = may.get(0);
            int rich = may.get(0);
            int foe = may.get(0);
            for (int t : may) {
                mild = d.losses[t] < d.losses[mild] ? t : mild;
                foe = d.losses[t] > d.losses[foe] ? t : foe;
                rich = people.get(t).standing > people.get(rich).standing ? t : rich;
            }
            switch (rule[0]) {
                case 2:
                    return may.contains(rule[1]) ? rule[1] : mild;
                case 3:
                    return rich;
                case 4:
                    return foe;
                case 5:
                    return valueOf(d, mild) < rule[1] ? -1 : mild;
                case 6:
                    int t = rule[1] % people.size();
                    while (!may.contains(t)) {
                        t = (t + 1) % people.size();
                    }
                    return t;
                default:
                    return mild;
            }
        }

        int name(int s, int b, int set) {
            if (!isShelf(s) || !isDeal(b) || set < 0 || set >> people.size() != 0) {
                return no(-2);
            }
            int no = want(s, int[].class);
            if (no != 0) {
                return no(no);
            }
            List<Integer> named = new ArrayList<>();
            for (int t = 0; t < 7; t++) {
                if ((set >> t) % 2 == 1) {
                    named.add(t);
                }
            }
            return third((int[]) shelves[s], deals.get(b), named);
        }

        /** The first BARGAIN of a WEEK that can't be so, or -1. */
        int firstWrong(int[] week) {
            for (int b = 0; b < week.length; b++) {
                if (week[b] == -1) {
                    continue;
                }
                boolean is = goodFor(deals.get(b)).contains(week[b]);
                for (int c = 0; c < b; c++) {
                    is &= week[c] == -1 || !deals.get(b).bars.contains(c) && !(law[1] == 1 && week[c] == week[b]);
                }
                if (!is) {
                    return b;
                }
            }
            return -1;
        }

        int[] toldWeek(int s) {
            int[] week = new int[deals.size()];
            for (int b = 0; b < week.length; b++) {
                long v = element(s, b);
                week[b] = v >= 0 && v < people.size() ? (int) v : -1;
            }
            return week;
        }

        int wantTold(int s) {
            int no = want(s, long[].class);
            return no == 0 && ((long[]) shelves[s]).length < deals.size() ? -2 : no;
        }

        int judge(int s) {
            int no = wantTold(s);
            return no == 0 ? firstWrong(toldWeek(s)) : no(no);
        }

        int tell(int[] week, int what) {
            int sum = 0;
            int count = 0;
            int named = 0;
            for (int b = 0; b < week.length; b++) {
                if (week[b] != -1) {
                    sum += valueOf(deals.get(b), week[b]);
                    count++;
                    named |= 1 << week[b];
                }
            }
            return new int[] {sum, count, named}[what];
        }

        int told(int s, int what) {
            int no = in(what, 0, 2) ? wantTold(s) : -2;
            if (no != 0) {
                return low(no);
            }
            return firstWrong(toldWeek(s)) == -1 ? tell(toldWeek(s), what) : low(-5);
        }

        int[] weekBy(int s) {
            int[] week = new int[deals.size()];
            List<Integer> named = new ArrayList<>();
            for (int b = 0; b < week.length; b++) {
                boolean barred = false;
                for (int c = 0; c < b; c++) {
                    barred |= week[c] != -1 && deals.get(b).bars.contains(c);
                }
                week[b] = barred ? -1 : third((int[]) shelves[s], deals.get(b), named);
                named.add(week[b]);
            }
            return week;
        }

        int by(int s, int what) {
            int no = in(what, 0, 2) ? want(s, int[].class) : -2;
            return no == 0 ? tell(weekBy(s), what) : low(no);
        }

        int head() {
            int head = -1;
            for (int s = 0; s < 8; s++) {
                if (want(s, int[].class) == 0 && (head == -1 || tell(weekBy(s), 0) > tell(weekBy(head), 0))) {
                    head = s;
                }
            }
            return head == -1 ? no(-5) : head;
        }

        int truth(int[] week) {
            int count = 0;
            for (int b = 0; b < week.length; b++) {
                if (week[b] != -1) {
                    Deal d = deals.get(b);
                    people.get(d.p).standing += d.gainOfP;
                    people.get(d.q).standing += d.gainOfQ;
                    people.get(week[b]).standing -= d.losses[week[b]];
                    people.get(week[b]).named++;
                    count++;
                }
            }
            weeks++;
            made += count;
            return count;
        }

        int lives(int s) {
            int no = want(s, int[].class);
            return no == 0 ? truth(weekBy(s)) : no(no);
        }

        int makes(int s) {
            int no = wantTold(s);
            if (no == 0 && firstWrong(toldWeek(s)) != -1) {
                no = -5;
            }
            return no == 0 ? truth(toldWeek(s)) : no(no);
        }

        int weeks(int n) {
            if (!in(n, 1, 30)) {
                return no(-2);
            }
            int all = 0;
            for (int i = 0; i < n; i++) {
                int[] week = new int[deals.size()];
                List<Integer> named = new ArrayList<>();
                for (int b = 0; b < week.length; b++) {
                    List<Integer> may = may(deals.get(b), named);
                    for (int c = 0; c < b; c++) {
                        if (week[c] != -1 && deals.get(b).bars.contains(c)) {
                            may.clear();
                        }
                    }
                    week[b] = -1;
                    if (!may.isEmpty()) {
                        seed = seed * 1103515245 + 12345;
                        week[b] = may.get(((seed >> 16) & 0xFFFF) % may.size());
                        named.add(week[b]);
                    }
                }
                all += truth(week);
            }
            return all;
        }

        /** More WEEKS than there are under any law. */
        int weeksAtMost() {
            int count = 1;
            for (Deal d : deals) {
                int thirds = 0;
                for (int t = 0; t < people.size(); t++) {
                    thirds += d.losses[t] > 0 && t != d.p && t != d.q ? 1 : 0;
                }
                count *= thirds + 1;
            }
            return count;
        }

        /** All WEEKS that CAN be, in the order of their rows, those alone named that are in a set. */
        List<int[]> allWeeks(int set) {
            List<int[]> all = new ArrayList<>();
            List<List<Integer>> good = new ArrayList<>();
            for (Deal d : deals) {
                good.add(goodFor(d));
            }
            grow(new int[0], set, good, all);
            return all;
        }

        void grow(int[] week, int set, List<List<Integer>> good, List<int[]> all) {
            int b = week.length;
            if (b == deals.size()) {
                all.add(week);
                return;
            }
            for (int t = -1; t < people.size(); t++) {
                boolean is = t == -1 || (set >> t) % 2 == 1 && good.get(b).contains(t);
                for (int c = 0; is && t != -1 && c < b; c++) {
                    is = week[c] == -1 || !deals.get(b).bars.contains(c) && !(law[1] == 1 && week[c] == t);
                }
                if (is) {
                    int[] longer = java.util.Arrays.copyOf(week, b + 1);
                    longer[b] = t;
                    grow(longer, set, good, all);
                }
            }
        }

        int[] bestWeek(int set) {
            int[] best = null;
            for (int[] week : allWeeks(set)) {
                if (best == null || tell(week, 0) > tell(best, 0)) {
                    best = week;
                }
            }
            return best;
        }

        int bestWith(int set) {
            return tell(bestWeek(set), 0);
        }

        int best() {
            return bestWith(255);
        }

        int bestOf(int b) {
            return isDeal(b) ? bestWeek(255)[b] : no(-2);
        }

        int worth(int t) {
            return isOne(t) ? best() - bestWith(255 - (1 << t)) : no(-2);
        }

        int dearest() {
            int dearest = -1;
            int most = -1;
            for (int t = 0; t < people.size(); t++) {
                int worth = worth(t);
                if (worth > most) {
                    dearest = t;
                    most = worth;
                }
            }
            return dearest == -1 ? no(-5) : dearest;
        }

        int gap(int s) {
            int no = want(s, int[].class);
            return no == 0 ? best() - tell(weekBy(s), 0) : low(no);
        }

        int fewest() {
            // A set is enough if some WEEK of BEST's VALUE names nobody else.
            List<int[]> all = allWeeks(255);
            int best = best();
            int fewest = -1;
            for (int set = 0; set < 1 << people.size(); set++) {
                if (fewest != -1 && Integer.bitCount(set) >= Integer.bitCount(fewest)) {
                    continue;
                }
                for (int[] week : all) {
                    if (tell(week, 0) == best && (tell(week, 2) & ~set) == 0) {
                        fewest = set;
                        break;
                    }
                }
            }
            return fewest;
        }

        int richest() {
            int richest = 0;
            for (int t = 0; t < people.size(); t++) {
                richest = people.get(t).standing > people.get(richest).standing ? t : richest;
            }
            return people.isEmpty() ? no(-5) : richest;
        }

        int alone(int t) {
            if (!isOne(t)) {
                return no(-2);
            }
            int bits = 0;
            for (int b = 0; b < deals.size(); b++) {
                bits |= goodFor(deals.get(b)).equals(List.of(t)) ? 1 << b : 0;
            }
            return bits;
        }

        int party(int t) {
            if (!isOne(t)) {
                return no(-2);
            }
            int bits = 0;
            for (int b = 0; b < deals.size(); b++) {
                bits |= deals.get(b).p == t || deals.get(b).q == t ? 1 << b : 0;
            }
            return bits;
        }

        int fair() {
            int most = Integer.MIN_VALUE;
            int least = Integer.MAX_VALUE;
            for (Person p : people) {
                most = Math.max(most, p.named);
                least = Math.min(least, p.named);
            }
            return people.isEmpty() ? no(-5) : most - least;
        }

        int never() {
            int bits = 0;
            for (int b = 0; b < deals.size(); b++) {
                bits |= goodFor(deals.get(b)).isEmpty() ? 1 << b : 0;
            }
            return bits;
        }

        int free() {
            int most = 0;
            for (int set = 0; set < 1 << deals.size(); set++) {
                int sum = 0;
                for (int b = 0; b < deals.size(); b++) {
                    if ((set >> b) % 2 == 1) {
                        Deal d = deals.get(b);
                        sum += (set & bits(d.bars)) == 0 ? d.gainOfP + d.gainOfQ : -100000;
                    }
                }
                most = Math.max(most, sum);
            }
            return most;
        }

        int cross(int b, int c, int what) {
            if (!isDeal(b) || !isDeal(c) || b == c || !in(what, 0, 1)) {
                return low(-2);
            }
            int one = crossed(deals.get(b), deals.get(c));
            int two = crossed(deals.get(c), deals.get(b));
            boolean is = one > -1000 && two > -1000;
            return what == 0 ? (is ? 1 : 0) : is ? one + two : low(-5);
        }

        int crossed(Deal d, Deal by) {
            int most = -1000;
            for (int t : goodFor(d)) {
                most = t == by.p || t == by.q ? Math.max(most, valueOf(d, t)) : most;
            }
            return most;
        }

        int rings() {
            int count = 0;
            for (int set = 0; set < 1 << deals.size(); set++) {
                count += Integer.bitCount(set) == 3 && isRing(set) ? 1 : 0;
            }
            return count;
        }

        boolean isRing(int set) {
            boolean is = false;
            for (int a = 0; a < deals.size(); a++) {
                for (int b = 0; b < deals.size(); b++) {
                    for (int c = 0; c < deals.size(); c++) {
                        is |= (1 << a | 1 << b | 1 << c) == set && crossed(deals.get(a), deals.get(b)) > -1000
                                && crossed(deals.get(b), deals.get(c)) > -1000 && crossed(deals.get(c), deals.get(a)) > -1000;
                    }
                }
            }
            return is;
        }

        int harm(int t) {
            return isOne(t) ? harmOf(t) : no(-2);
        }

        int harmOf(int t) {
            int most = 0;
            for (int[] week : allWeeks(255)) {
                int sum = 0;
                for (int b = 0; b < week.length; b++) {
                    sum += week[b] == t ? deals.get(b).losses[t] : 0;
                }
                most = Math.max(most, sum);
            }
            return most;
        }

        int worst() {
            int worst = 0;
            for (int t = 1; t < people.size(); t++) {
                worst = harmOf(t) > harmOf(worst) ? t : worst;
            }
            return people.isEmpty() ? no(-5) : worst;
        }

        int hated() {
            int[] counts = new int[7];
            int hated = 0;
            for (Deal d : deals) {
                for (int t : goodFor(d)) {
                    counts[t]++;
                }
            }
            for (int t = 1; t < people.size(); t++) {
                hated = counts[t] > counts[hated] ? t : hated;
            }
            return people.isEmpty() ? no(-5) : hated;
        }

        boolean canBeSaid(int b, int t) {
            Deal d = deals.get(b);
            return t != d.p && t != d.q && d.losses[t] < law[0];
        }

        int said(int b, int t) {
            if (!isDeal(b) || !isOne(t)) {
                return low(-2);
            }
            return canBeSaid(b, t) ? (10 - law[2]) * valueOf(deals.get(b), t) - law[2] * law[3] : low(-5);
        }

        int dares() {
            int count = 0;
            for (int b = 0; b < deals.size(); b++) {
                for (int t = 0; t < people.size(); t++) {
                    count += canBeSaid(b, t) && said(b, t) > 0 ? 1 : 0;
                }
            }
            return count;
        }

        int deters() {
            int was = law[3];
            int least = -1;
            for (int fine = 999; fine >= 0; fine--) {
                law[3] = fine;
                least = dares() == 0 ? fine : least;
            }
            law[3] = was;
            return least;
        }

        int bestUnder(int least) {
            int was = law[0];
            law[0] = least;
            int best = best();
            law[0] = was;
            return best;
        }

        int under(int least) {
            return in(least, 1, 99) ? bestUnder(least) : no(-2);
        }

        int bestLaw() {
            int law = 1;
            for (int l = 2; l <= 20; l++) {
                law = bestUnder(l) > bestUnder(law) ? l : law;
            }
            return law;
        }

        int hiding(int b, int t) {
            if (!isDeal(b) || !isOne(t)) {
                return no(-2);
            }
            Deal d = deals.get(b);
            if (t == d.p || t == d.q) {
                return no(-5);
            }
            int best = best();
            int was = d.losses[t];
            d.losses[t] = law[0];
            int more = best() - best;
            d.losses[t] = was;
            return more;
        }

        int seed(int v) {
            int was = seed;
            seed = v;
            return was;
        }

        int named(int t) {
            return isOne(t) ? people.get(t).named : no(-2);
        }

        int image() {
            kept = new Model();
            kept.become(this);
            return 1;
        }

        int back() {
            if (kept == null) {
                return no(-5);
            }
            become(kept);
            return 1;
        }
    }
}
