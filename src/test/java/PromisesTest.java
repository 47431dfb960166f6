/** For each promise of the document: ordinary inputs, the edges that it names, wrong inputs. */
public final class PromisesTest {
    private static final int V_BAD = -1000002;
    private static final int V_OTHER = -1000003;
    private static final int V_NOTHING = -1000004;
    private static final int V_STUCK = -1000005;
    /** VALUES: 0 by 2: 11, by 3: 8; 1 by 0: 9, by 1: 12; 2 by 3: 13; 3 by 1: -5, by 2: 3. */
    private static final String FOUR = "one;one;one;one;deal 0 1 9 5 hurts 2 3 hurts 3 6;"
            + "deal 2 3 10 4 hurts 0 5 hurts 1 2;deal 1 2 20 0 hurts 3 7;gains 2 0 4;"
            + "deal 0 3 2 2 hurts 1 9 hurts 2 1";
    private static int wrong = 0;

    public static void main(String[] args) {
        shelves();
        rules();
        building();
        laws();
        texts();
        faults();
        looks();
        names();
        toldWeeks();
        weeksByRules();
        weeksInTruth();
        best();
        bestTies();
        fewest();
        looksAtAll();
        crosses();
        harms();
        court();
        otherLaws();
        draws();
        images();
        refusalCounts();
        System.out.println(wrong == 0 ? "all promises hold" : wrong + " answers are not as due");
        if (wrong != 0) {
            System.exit(1);
        }
    }

    private static void due(String what, long got, long want) {
        if (got != want) {
            wrong++;
            System.out.println(what + " answered " + got + ", due is " + want);
        }
    }

    private static int read(NeedsALoser x, String text) {
        for (char c : text.toCharArray()) {
            x.feed(c);
        }
        return x.town();
    }

    private static NeedsALoser of(String text) {
        NeedsALoser x = new NeedsALoser();
        if (read(x, text) < 0) {
            wrong++;
            System.out.println("not read: " + text);
        }
        return x;
    }

    private static void tell(NeedsALoser x, int s, int... thirds) {
        x.row(s, 2, thirds.length);
        for (int i = 0; i < thirds.length; i++) {
            x.set(s, i, thirds[i]);
        }
    }

    // promises 1 to 6
    private static void shelves() {
        NeedsALoser x = new NeedsALoser();
        for (int s = -1; s <= 8; s++) {
            due("1 holds " + s, x.holds(s), -1);
        }
        int[] first = {0, 0, 0, 0, 1, 1, 5, 50, 0, 1, 0, -1, 0, 0, 0, 0, 0, -1};
        for (int what = 0; what < first.length; what++) {
            due("1 status " + what, x.status(what), first[what]);
        }
        due("58 status -1", x.status(-1), -1);
        due("2 row", x.row(0, 0, 40), 1);
        due("2 row of 41", x.row(1, 0, 41), -2);
        due("2 row of -1", x.row(1, 0, -1), -2);
        due("2 row of none", x.row(1, 4, 0), 1);
        due("2 row sort 5", x.row(1, 5, 1), -2);
        due("2 row sort -1", x.row(1, -1, 1), -2);
        due("2 row shelf 8", x.row(8, 1, 1), -2);
        due("2 row shelf -1", x.row(-1, 1, 1), -2);
        due("6 holds 0", x.holds(0), 0);
        due("6 holds 1", x.holds(1), 4);
        long v = 0x1234567890ABCDEFL;
        long[] kept = {(byte) v, (short) v, (int) v, v, 1};
        for (int sort = 0; sort < 5; sort++) {
            due("2 row", x.row(2, sort, 3), 1);
            due("3 set", x.set(2, 1, v), 1);
            due("3 set last", x.set(2, 2, 256), 1);
            due("5 element 0", x.element(2, 0), 0);
            due("5 element of sort " + sort, x.element(2, 1), kept[sort]);
            due("5 element 2", x.element(2, 2), sort == 0 ? 0 : sort == 4 ? 1 : 256);
            due("6 holds", x.holds(2), sort);
        }
        due("3 set 3", x.set(2, 3, 1), -2);
        due("3 set -1", x.set(2, -1, 1), -2);
        due("3 set shelf", x.set(-1, 0, 1), -2);
        due("3 set shelf", x.set(8, 0, 1), -2);
        due("3 set nothing", x.set(7, 99, 1), -4);
        x.rule(6, 1, 0);
        due("3 set rule", x.set(6, 99, 1), -3);
        due("5 element none", x.element(2, 3), 0);
        due("5 element none", x.element(2, -1), 0);
        due("5 element of rule", x.element(6, 0), 0);
        due("5 element of nothing", x.element(7, 0), 0);
        due("5 element of no shelf", x.element(8, 0), 0);
        due("5 element of no shelf", x.element(Integer.MIN_VALUE, Integer.MAX_VALUE), 0);
        x.row(2, 4, 3);
        due("2 a new row", x.element(2, 1), 0);
        copies(x);
    }

    private static void copies(NeedsALoser x) {
        x.row(0, 2, 6);
        x.row(1, 2, 4);
        x.row(2, 3, 4);
        for (int i = 0; i < 6; i++) {
            x.set(0, i, i + 1);
        }
        due("4 copy up", x.copy(0, 0, 0, 2, 4), 4);
        int[] up = {1, 2, 1, 2, 3, 4};
        for (int i = 0; i < 6; i++) {
            due("4 as they were, up", x.element(0, i), up[i]);
        }
        due("4 copy down", x.copy(0, 0, 2, 1, 4), 4);
        int[] down = {1, 1, 2, 3, 4, 4};
        for (int i = 0; i < 6; i++) {
            due("4 as they were, down", x.element(0, i), down[i]);
        }
        due("4 copy over", x.copy(0, 1, 2, 1, 3), 3);
        due("4 copied", x.element(1, 0), 0);
        due("4 copied", x.element(1, 1), 2);
        due("4 copied", x.element(1, 3), 4);
        due("4 none, at the end", x.copy(0, 1, 6, 4, 0), 0);
        due("4 i behind the end", x.copy(0, 1, 7, 0, 0), -2);
        due("4 n", x.copy(0, 1, 0, 0, 5), -2);
        due("4 n", x.copy(1, 0, 0, 0, 5), -2);
        due("4 n", x.copy(0, 1, 0, 0, -1), -2);
        due("4 i", x.copy(0, 1, -1, 0, 1), -2);
        due("4 j", x.copy(0, 1, 0, -1, 1), -2);
        due("4 huge", x.copy(0, 1, Integer.MAX_VALUE, 1, Integer.MAX_VALUE), -2);
        due("4 sorts", x.copy(0, 2, 99, 0, 1), -3);
        due("4 rule", x.copy(6, 7, 0, 0, 1), -3);
        due("4 rule", x.copy(7, 6, 0, 0, 1), -3);
        due("4 nothing", x.copy(7, 0, 99, 0, 1), -4);
        due("4 nothing", x.copy(0, 7, 99, 0, 1), -4);
        due("4 shelf", x.copy(8, 6, 0, 0, 1), -2);
        due("4 shelf", x.copy(6, -1, 0, 0, 1), -2);
    }

    // promises 6 to 8
    private static void rules() {
        NeedsALoser x = new NeedsALoser();
        due("7 kind 0", x.rule(0, 0, 0), -2);
        due("7 kind 7", x.rule(0, 7, 0), -2);
        due("7 a", x.rule(0, 1, -1), -2);
        due("7 a", x.rule(0, 1, 100), -2);
        due("7 shelf", x.rule(8, 1, 0), -2);
        due("7 shelf", x.rule(-1, 1, 0), -2);
        for (int kind = 1; kind <= 6; kind++) {
            due("7 rule", x.rule(kind, kind, 90 + kind), 1);
            due("6 holds", x.holds(kind), 10 + kind);
        }
        // Which KIND (row) is of which (column) or under it.
        String[] under = {"1100000", "1110000", "1101000", "1000100", "1100010", "1000001"};
        for (int kind = 1; kind <= 6; kind++) {
            due("8 its a", x.says(kind, 0), 90 + kind);
            for (int taken = 1; taken <= 6; taken++) {
                due("8 " + kind + " as " + taken, x.says(kind, taken), under[kind - 1].charAt(taken) == '1' ? -5 : -3);
            }
        }
        x.row(0, 1, 1);
        due("8 kind", x.says(1, 7), -2);
        due("8 kind", x.says(0, -1), -2);
        due("8 shelf", x.says(8, 0), -2);
        due("8 row", x.says(0, 0), -3);
        due("8 nothing", x.says(7, 1), -4);
        read(x, "one;one;one;one;deal 0 1 9 5 hurts 2 6 hurts 3 3");
        due("8 mild", x.says(1, 1), 3);
        x.rule(2, 2, 2);
        due("8 sworn", x.says(2, 2), 2);
        due("8 sworn as mild", x.says(2, 1), 2);
        due("8 sworn as rule", x.says(2, 0), 2);
        due("8 rich as mild", x.says(3, 1), 2);
        due("8 foe", x.says(4, 4), 2);
        x.rule(5, 5, 12);
        due("8 cheap: none", x.says(5, 5), -1);
        due("8 cheap as mild", x.says(5, 1), -1);
        due("8 cheap as rule", x.says(5, 0), 12);
        x.rule(6, 6, 7);
        due("8 round", x.says(6, 6), 3);
        x.ask(0, 99);
        due("8 nobody", x.says(1, 1), -1);
    }

    // promises 9 to 12
    private static void building() {
        NeedsALoser x = new NeedsALoser();
        due("10 nobody yet", x.bargain(0, 1, 1, 1), -2);
        for (int i = 0; i < 7; i++) {
            due("9 one", x.one(), i);
        }
        due("9 full", x.one(), -6);
        due("58 none came", x.status(0), 7);
        due("9 no number 7", x.standing(7), V_BAD);
        due("10 p", x.bargain(7, 0, 1, 1), -2);
        due("10 q", x.bargain(0, -1, 1, 1), -2);
        due("10 unlike", x.bargain(3, 3, 1, 1), -2);
        due("10 gain", x.bargain(0, 1, 100, 1), -2);
        due("10 gain", x.bargain(0, 1, 1, -1), -2);
        due("11 no bargain", x.hurts(0, 0, 1), -2);
        for (int i = 0; i < 7; i++) {
            due("10 bargain", x.bargain(i, (i + 1) % 7, 99, 0), i);
        }
        due("10 bad ahead of full", x.bargain(0, 0, 1, 1), -2);
        due("10 full", x.bargain(0, 1, 1, 1), -6);
        due("58 full", x.status(16), 2);
        due("58 none came", x.status(1), 7);
        due("10 no number 7", x.good(7), -2);
        due("11 hurts", x.hurts(6, 3, 99), 1);
        due("11 hurts", x.hurts(6, 2, -99), 1);
        due("11 a party", x.hurts(6, 6, 50), 1);
        due("18 told again", x.lossOf(6, 6), 50);
        due("18 of no other", x.lossOf(5, 6), 0);
        due("20 a party counts for nothing", x.good(6), 8);
        due("11 v", x.hurts(6, 3, 100), -2);
        due("11 v", x.hurts(6, 3, -100), -2);
        due("11 one", x.hurts(6, 7, 1), -2);
        due("11 bargain", x.hurts(7, 1, 1), -2);
        due("11 bargain", x.hurts(-1, 1, 1), -2);
        due("12 bars", x.bars(0, 6, true), 1);
        due("12 it was so", x.bars(6, 0, true), 0);
        due("12 not so yet", x.bars(1, 2, false), 0);
        due("17 bits", x.bargainOf(0, 4), 64);
        due("17 bits", x.bargainOf(6, 4), 1);
        due("12 no more", x.bars(6, 0, false), 1);
        due("17 bits", x.bargainOf(0, 4), 0);
        due("17 bits", x.bargainOf(6, 4), 0);
        due("12 itself", x.bars(1, 1, true), -2);
        due("12 other", x.bars(1, 7, true), -2);
        due("12 bargain", x.bars(-1, 1, true), -2);
    }

    // promise 13
    private static void laws() {
        NeedsALoser x = new NeedsALoser();
        int[][] laws = {{1, 1, 99}, {1, 0, 1}, {5, 0, 10}, {50, 0, 999}};
        for (int what = 0; what < 4; what++) {
            due("13 what it was", x.ask(what, laws[what][2]), laws[what][0]);
            due("13 what it was", x.ask(what, laws[what][1]), laws[what][2]);
            due("13 above", x.ask(what, laws[what][2] + 1), -2);
            due("13 under", x.ask(what, laws[what][1] - 1), -2);
            due("58 status", x.status(4 + what), laws[what][1]);
        }
        due("13 what", x.ask(4, 1), -2);
        due("13 what", x.ask(-1, 1), -2);
    }

    // promises 14 to 16
    private static void texts() {
        NeedsALoser x = new NeedsALoser();
        due("14 letter", x.feed(-1), -2);
        due("14 letter", x.feed(256), -2);
        for (int i = 1; i <= 250; i++) {
            due("14 feed", x.feed(i == 1 ? 255 : i == 2 ? 0 : 32), i);
        }
        due("14 bad ahead of full", x.feed(256), -2);
        due("14 full", x.feed(32), -6);
        due("58 size", x.status(8), 250);
        due("15 wipe", x.wipe(), 250);
        due("15 wipe", x.wipe(), 0);
        due("14 feed again", x.feed(32), 1);
        due("16 only blanks", x.town(), -21);
        due("16 empty after", x.status(8), 0);
        due("16 empty", x.town(), -20);
        texts(new NeedsALoser());
    }

    private static void texts(NeedsALoser x) {
        due("16 read", read(x, FOUR), 9);
        due("16 empty after", x.status(8), 0);
        due("58 people", x.status(0), 4);
        due("58 bargains", x.status(1), 4);
        due("16 loss", x.lossOf(0, 3), 6);
        due("16 gains", x.lossOf(2, 0), -4);
        due("16 blanks, or none", read(x, "  law12 ;once0;court  10 ;fine 099  "), 4);
        due("16 law", x.status(4), 12);
        due("16 once", x.status(5), 0);
        due("16 court", x.status(6), 10);
        due("16 fine", x.status(7), 99);
        due("16 bars", read(x, "bars 0 3;bars 3 0;gains 0 0 7;gains 1 0 0"), 4);
        due("16 bars", x.bargainOf(0, 4), 8);
        due("16 bars", x.bargainOf(3, 4), 1);
        due("16 gains of a party", x.lossOf(0, 0), -7);
        due("16 gains 0", x.lossOf(1, 0), 0);
        due("16 what it made itself", read(x, "one;deal 4 0 99 0 hurts 4 99 hurts 1 0;bars 4 0"), 3);
        due("16 deal", x.bargainOf(4, 0), 4);
        due("16 deal", x.bargainOf(4, 2), 99);
        due("16 hurts a party", x.lossOf(4, 4), 99);
        due("16 last of two", read(x, "fine 1;fine 2"), 2);
        due("16 last of two", x.status(7), 2);
    }

    private static void fault(String text, int place) {
        NeedsALoser x = of("one;one;one;deal 0 1 5 5;deal 1 2 5 5");
        due("16 fault of '" + text + "'", read(x, text), -20 - place);
        due("16 nothing came of it", x.status(0) * 10 + x.status(1), 32);
        due("16 nothing came of it", x.status(4), 1);
        due("16 nothing came of it", x.lossOf(0, 2), 0);
        due("16 it is refused", x.status(12), 1);
    }

    private static void faults() {
        fault(";", 0);
        fault("one;", 4);
        fault("one;  ", 6);
        fault("one;;one", 4);
        fault("one one", 4);
        fault("law 7;ones", 6);
        fault("law 7;One", 6);
        fault("law 7;on", 6);
        fault("onelaw 7", 0);
        fault("7", 0);
        fault("one,one", 3);
        fault("law", 3);
        fault("law ", 4);
        fault("law ;", 4);
        fault("law x", 4);
        fault("law 0", 4);
        fault("law 100", 4);
        fault("law 0001", 4);
        fault("law 1 2", 6);
        fault("once 2", 5);
        fault("court 11", 6);
        fault("fine 1000", 5);
        fault("deal 3 0 1 1", 5);
        fault("deal 0 3 1 1", 7);
        fault("deal 0 0 1 1", 7);
        fault("deal 0 1 100 1", 9);
        fault("deal 0 1 1 100", 11);
        fault("deal 0 1 1", 10);
        fault("deal 0 1 1;", 10);
        fault("deal 0 1 1 1 hurts", 18);
        fault("deal 0 1 1 1 hurts 3 1", 19);
        fault("deal 0 1 1 1 hurts 2 100", 21);
        fault("deal 0 1 1 1 hurts 2 1 1", 23);
        fault("deal 0 1 1 1 hurt 2 1", 13);
        fault("hurts 2 1", 0);
        fault("gains 2 0 1", 6);
        fault("gains 0 3 1", 8);
        fault("gains 0 2 100", 10);
        fault("gains 0 2 9;law 9;gains 0 2 -9", 28);
        fault("bars 2 0", 5);
        fault("bars 0 2", 7);
        fault("bars 1 1", 7);
        // Of each there is room for 7.
        due("16 room", read(of("one;one;one"), "one;one;one;one"), 4);
        fault("one;one;one;one;one", 16);
        due("16 room", read(of(FOUR), "deal 0 1 1 1;deal 0 1 1 1;deal 0 1 1 1"), 3);
        fault("deal 0 1 1 1;deal 0 1 1 1;deal 0 1 1 1;deal 0 1 1 1;deal 0 1 1 1;deal 9", 65);
        fault("law 7\t", 5);
        fault("" + (char) 233, 0);
    }

    // promises 17 to 21, 36, 37
    private static void looks() {
        NeedsALoser x = of(FOUR);
        int[] deal = {2, 3, 10, 4, 0};
        for (int what = 0; what < 5; what++) {
            due("17 bargainOf", x.bargainOf(1, what), deal[what]);
        }
        due("17 what", x.bargainOf(1, 5), -2);
        due("17 what", x.bargainOf(1, -1), -2);
        due("17 bargain", x.bargainOf(4, 0), -2);
        due("18 loss", x.lossOf(2, 0), -4);
        due("18 at first", x.lossOf(2, 1), 0);
        due("18 one", x.lossOf(2, 4), V_BAD);
        due("18 bargain", x.lossOf(-1, 0), V_BAD);
        due("19 standing", x.standing(3), 0);
        due("19 one", x.standing(4), V_BAD);
        due("19 one", x.standing(-1), V_BAD);
        int[] good = {12, 3, 8, 6};
        for (int b = 0; b < 4; b++) {
            due("20 good", x.good(b), good[b]);
        }
        due("20 bargain", x.good(4), -2);
        due("20 bargain", x.good(-1), -2);
        x.ask(0, 6);
        due("20 LEAST itself", x.good(0), 8);
        x.ask(0, 7);
        due("20 below LEAST", x.good(0), 0);
        x.ask(0, 1);
        due("21 value", x.value(0, 2), 11);
        due("21 below 0", x.value(3, 1), -5);
        due("21 not good", x.value(2, 0), V_STUCK);
        due("21 party", x.value(0, 0), V_STUCK);
        due("21 third", x.value(0, 4), V_BAD);
        due("21 bargain", x.value(4, 0), V_BAD);
        due("36 alone", x.alone(3), 4);
        due("36 alone", x.alone(1), 0);
        due("36 one", x.alone(4), -2);
        due("37 party", x.party(0), 9);
        due("37 party", x.party(2), 6);
        due("37 one", x.party(-1), -2);
        due("37 one", x.party(4), -2);
    }

    // promise 22
    private static void names() {
        NeedsALoser x = of("one;one;one;one;one;deal 0 1 9 5 hurts 2 6 hurts 3 3 hurts 4 3");
        x.rule(1, 1, 0);
        x.rule(2, 2, 2);
        x.rule(3, 3, 0);
        x.rule(4, 4, 0);
        x.rule(5, 5, 11);
        x.rule(6, 6, 9);
        due("22 mild", x.name(1, 0, 0), 3);
        due("22 mild", x.name(1, 0, 8), 4);
        due("22 mild", x.name(1, 0, 24), 2);
        due("22 none", x.name(1, 0, 28), -1);
        due("22 sworn", x.name(2, 0, 0), 2);
        due("22 sworn, else mild", x.name(2, 0, 4), 3);
        x.rule(2, 2, 34);
        due("22 sworn by nobody of them", x.name(2, 0, 0), 3);
        x.rule(2, 2, 0);
        due("22 sworn by a party", x.name(2, 0, 0), 3);
        due("22 rich, all alike", x.name(3, 0, 0), 2);
        due("22 foe", x.name(4, 0, 0), 2);
        due("22 foe", x.name(4, 0, 4), 3);
        due("22 cheap, just", x.name(5, 0, 0), 3);
        due("22 cheap, below", x.name(5, 0, 24), -1);
        due("22 round from 4", x.name(6, 0, 0), 4);
        due("22 round on", x.name(6, 0, 16), 2);
        due("22 round on", x.name(6, 0, 20), 3);
        x.ask(1, 0);
        due("22 twice, if it may be", x.name(1, 0, 31), 3);
        due("22 set", x.name(1, 0, 32), -2);
        due("22 set", x.name(1, 0, -1), -2);
        due("22 bargain", x.name(1, 1, 0), -2);
        due("22 shelf", x.name(8, 0, 0), -2);
        x.row(7, 0, 0);
        due("22 row", x.name(7, 0, 0), -3);
        due("22 nothing", x.name(0, 0, 0), -4);
        due("22 bad ahead", x.name(0, 1, 0), -2);
        // RICH by STANDING.
        x.ask(1, 1);
        read(x, "deal 3 4 5 6 hurts 0 1;deal 2 4 0 1 hurts 0 2");
        tell(x, 0, -1, 0, -1);
        x.makes(0);
        due("22 rich", x.name(3, 0, 0), 4);
        due("22 rich", x.name(3, 0, 16), 3);
    }

    // promises 23, 24
    private static void toldWeeks() {
        NeedsALoser x = of(FOUR);
        tell(x, 0, 2, 1, 3, -1);
        due("23 can be", x.judge(0), -1);
        due("24 value", x.told(0, 0), 36);
        due("24 made", x.told(0, 1), 3);
        due("24 named", x.told(0, 2), 14);
        tell(x, 0, 2, 1, 3, 1);
        due("23 twice", x.judge(0), 3);
        due("24 can't be", x.told(0, 0), V_STUCK);
        due("28 can't be", x.makes(0), -5);
        x.ask(1, 0);
        due("23 twice", x.judge(0), -1);
        due("24 value", x.told(0, 0), 31);
        due("24 named", x.told(0, 2), 14);
        x.ask(1, 1);
        tell(x, 0, 4, 99, -7, Integer.MIN_VALUE);
        due("23 nobody of them: not made", x.judge(0), -1);
        due("24 nothing made", x.told(0, 1), 0);
        x.row(1, 3, 4);
        x.set(1, 0, (1L << 32) + 2);
        x.set(1, 1, -1);
        x.set(1, 2, Long.MAX_VALUE);
        x.set(1, 3, Long.MIN_VALUE);
        due("23 nobody of them: longs", x.told(1, 1), 0);
        tell(x, 0, 0, 0, 3, -1);
        due("23 a party", x.judge(0), 0);
        tell(x, 0, -1, 1, 0, -1);
        due("23 not good", x.judge(0), 2);
        tell(x, 0, 2, -1, 3, 1, 55);
        due("23 more elements", x.judge(0), -1);
        x.bars(2, 3, true);
        due("23 barred", x.judge(0), 3);
        x.bars(2, 3, false);
        x.bars(1, 3, true);
        due("23 barred by one not made", x.judge(0), -1);
        x.row(2, 4, 4);
        x.set(2, 1, 1);
        due("23 booleans", x.judge(2), 0);
        tell(x, 3, 2, 1, 3);
        x.rule(4, 1, 0);
        due("23 fewer", x.judge(3), -2);
        due("23 rule", x.judge(4), -3);
        due("23 nothing", x.judge(5), -4);
        due("23 shelf", x.judge(8), -2);
        due("24 fewer", x.told(3, 0), V_BAD);
        due("24 rule", x.told(4, 0), V_OTHER);
        due("24 nothing", x.told(5, 0), V_NOTHING);
        due("24 shelf", x.told(-1, 0), V_BAD);
        due("24 what", x.told(0, 3), V_BAD);
        due("24 what", x.told(0, -1), V_BAD);
        due("28 fewer", x.makes(3), -2);
        due("28 rule", x.makes(4), -3);
        due("28 nothing", x.makes(5), -4);
        due("28 shelf", x.makes(8), -2);
    }

    // promises 25 to 27, 33
    private static void weeksByRules() {
        NeedsALoser x = of(FOUR);
        due("26 no rule", x.head(), -5);
        // MILD: 0 by 2 (11), 1 by 1 (12), 2 by 3 (13), 3 by nobody left.
        x.rule(3, 1, 0);
        due("25 mild", x.by(3, 0), 36);
        due("25 mild", x.by(3, 1), 3);
        due("25 mild", x.by(3, 2), 14);
        due("33 gap", x.gap(3), 0);
        // FOE: 0 by 3 (8), 1 by 0 (9), 2 by nobody left, 3 by 1 (-5).
        x.rule(1, 4, 0);
        due("25 foe", x.by(1, 0), 12);
        due("25 foe", x.by(1, 2), 11);
        due("33 gap", x.gap(1), 24);
        x.rule(5, 3, 0);
        // RICH, all alike: 0 by 2 (11), 1 by 0 (9), 2 by 3 (13), 3 by 1 (-5).
        due("25 rich", x.by(5, 0), 28);
        due("26 head", x.head(), 3);
        x.rule(4, 1, 0);
        due("26 of several the first", x.head(), 3);
        x.rule(2, 5, 12);
        // CHEAP: 0 none, 1 by 1 (12), 2 by 3 (13), 3 none (3 by 2 is below 12).
        due("25 cheap", x.by(2, 0), 25);
        due("25 cheap", x.by(2, 1), 2);
        x.bars(0, 1, true);
        due("25 barred by none made", x.by(2, 0), 25);
        due("25 barred", x.by(3, 0), 19);
        x.row(0, 2, 4);
        due("25 row", x.by(0, 0), V_OTHER);
        due("25 nothing", x.by(6, 0), V_NOTHING);
        due("25 shelf", x.by(8, 0), V_BAD);
        due("25 what", x.by(1, 3), V_BAD);
        due("25 what ahead", x.by(6, -1), V_BAD);
        due("33 row", x.gap(0), V_OTHER);
        due("33 nothing", x.gap(6), V_NOTHING);
        due("33 shelf", x.gap(-1), V_BAD);
        due("27 row", x.lives(0), -3);
        due("27 nothing", x.lives(6), -4);
        due("27 shelf", x.lives(8), -2);
        NeedsALoser y = of("one;one;one;deal 0 1 0 0 hurts 2 9");
        y.rule(2, 1, 0);
        y.rule(1, 4, 0);
        due("26 below 0", y.head(), 1);
        due("33 more than the rule's", y.gap(1), 9);
    }

    // promises 27, 28, 35, 38, 54
    private static void weeksInTruth() {
        NeedsALoser x = of(FOUR);
        x.rule(0, 1, 0);
        due("27 lives", x.lives(0), 3);
        int[] standings = {9, 5 + 20 - 2, 10 - 3, 4 - 7};
        for (int t = 0; t < 4; t++) {
            due("19 standing", x.standing(t), standings[t]);
            due("54 named", x.named(t), t == 0 ? 0 : 1);
        }
        due("35 richest", x.richest(), 1);
        due("38 fair", x.fair(), 1);
        due("58 weeks", x.status(2), 1);
        due("58 made", x.status(3), 3);
        tell(x, 1, -1, -1, 3, 2);
        due("28 makes", x.makes(1), 2);
        due("19 standing", x.standing(3), -3 - 7 + 2);
        due("54 named", x.named(3), 2);
        due("38 fair", x.fair(), 2);
        tell(x, 1, -1, -1, -1, -1);
        due("28 none made", x.makes(1), 0);
        due("58 weeks", x.status(2), 3);
        due("58 made", x.status(3), 5);
        due("54 one", x.named(4), -2);
        due("54 one", x.named(-1), -2);
        NeedsALoser y = new NeedsALoser();
        due("35 nobody", y.richest(), -5);
        due("38 nobody", y.fair(), -5);
        y.one();
        y.one();
        due("35 of several the first", y.richest(), 0);
        due("38 alike", y.fair(), 0);
        // STANDING is as ahead of the WEEK throughout: 4 has gained by 0, but only in this WEEK.
        NeedsALoser z = of("one;one;one;one;one;deal 0 4 1 9 hurts 1 1;deal 0 1 0 0 hurts 3 1 hurts 4 1");
        z.rule(0, 3, 0);
        z.lives(0);
        due("27 as ahead of the week", z.named(3), 1);
        z.lives(0);
        due("27 as ahead of the next", z.named(4), 1);
    }

    // promises 29 to 32
    private static void best() {
        NeedsALoser x = of(FOUR);
        due("29 best", x.best(), 36);
        int[] thirds = {2, 1, 3, -1};
        int[] worths = {0, 3, 11, 13};
        for (int i = 0; i < 4; i++) {
            due("30 bestOf", x.bestOf(i), thirds[i]);
            due("31 worth", x.worth(i), worths[i]);
        }
        due("32 dearest", x.dearest(), 3);
        due("30 bargain", x.bestOf(4), -2);
        due("30 bargain", x.bestOf(-1), -2);
        due("31 one", x.worth(4), -2);
        due("31 one", x.worth(-1), -2);
        x.bars(1, 2, true);
        due("29 barred", x.best(), 24);
        due("30 barred", x.bestOf(0), 2);
        due("30 barred", x.bestOf(1), -1);
        x.bars(0, 2, true);
        due("29 barred", x.best(), 23);
        x.ask(1, 0);
        due("29 twice", x.best(), 26);
        due("30 twice", x.bestOf(3), 2);
        due("58 no week in truth", x.status(2), 0);
        NeedsALoser y = new NeedsALoser();
        due("29 of nothing", y.best(), 0);
        due("32 nobody", y.dearest(), -5);
        y.one();
        due("31 of none", y.worth(0), 0);
        due("32 of several the first", y.dearest(), 0);
        // 0 at least: what is below 0 isn't made.
        NeedsALoser z = of("one;one;one;deal 0 1 3 0 hurts 2 9");
        due("29 0 at least", z.best(), 0);
        due("30 not made", z.bestOf(0), -1);
    }

    /** Of several of one VALUE the first by its row: none ahead of 0, then 1; BARGAIN 0 first. */
    private static void bestTies() {
        NeedsALoser x = of("one;one;one;one;deal 0 1 5 0 hurts 2 3 hurts 3 3;deal 0 1 5 0 hurts 2 3 hurts 3 3");
        due("30 first", x.bestOf(0), 2);
        due("30 first", x.bestOf(1), 3);
        x.bars(0, 1, true);
        due("30 none ahead", x.bestOf(0), -1);
        due("30 none ahead", x.bestOf(1), 2);
        NeedsALoser y = of("one;one;one;one;deal 0 1 5 0 hurts 2 5 hurts 3 5");
        due("30 none of 0", y.bestOf(0), -1);
        y.hurts(0, 2, 4);
        y.hurts(0, 3, 4);
        due("30 the first", y.bestOf(0), 2);
        // The last of the PEOPLE is a third as well as any, for the last BARGAIN as well as for the first.
        NeedsALoser z = of("one;one;one;one;one;one;one;deal 0 1 9 9 hurts 6 1;deal 0 1 9 9 hurts 5 1;"
                + "deal 0 1 9 9 hurts 4 1;deal 0 1 9 9 hurts 3 1;deal 0 1 9 9 hurts 2 1;"
                + "deal 2 3 9 9 hurts 1 1;deal 2 3 9 9 hurts 0 1");
        for (int b = 0; b < 7; b++) {
            due("30 of seven", z.bestOf(b), 6 - b);
        }
        due("29 of seven", z.best(), 119);
        due("34 of seven", z.fewest(), 127);
        due("40 of seven", z.free(), 126);
    }

    // promise 34
    private static void fewest() {
        NeedsALoser x = of(FOUR);
        due("34 fewest", x.fewest(), 14);
        x.ask(1, 0);
        // Twice: 0 by 2, 1 by 1, 2 by 3, 3 by 2.
        due("34 twice", x.fewest(), 14);
        due("34 nobody", new NeedsALoser().fewest(), 0);
        NeedsALoser y = of("one;one;one;one;one;one;deal 0 1 9 9 hurts 2 1 hurts 4 1;deal 0 1 9 9 hurts 3 1 hurts 4 1;"
                + "deal 0 1 9 9 hurts 3 1 hurts 5 1;deal 0 1 0 1 hurts 2 1");
        y.ask(1, 0);
        // {2,3}, {3,4}, {4,5}, .. all do; BARGAIN 3 is worth nothing.
        due("34 of several the least", y.fewest(), 12);
        y.hurts(0, 2, 2);
        due("34 of several the least", y.fewest(), 24);
        y.ask(1, 1);
        due("34 not twice", y.fewest(), 56);
        // Fewer of the greater numbers ahead of more of the less ones.
        NeedsALoser z = of("one;one;one;one;one;deal 0 1 9 9 hurts 2 1 hurts 4 1;deal 0 1 9 9 hurts 3 1 hurts 4 1");
        z.ask(1, 0);
        due("34 one is enough", z.fewest(), 16);
    }

    // promises 39, 40, 45
    private static void looksAtAll() {
        NeedsALoser x = of(FOUR);
        due("39 none", x.never(), 0);
        due("40 all", x.free(), 52);
        // GAINS are 14, 14, 20, 4.
        x.bars(0, 1, true);
        due("40 free", x.free(), 38);
        x.bars(1, 2, true);
        due("40 free", x.free(), 38);
        x.bars(0, 2, true);
        due("40 free", x.free(), 24);
        due("45 hated", x.hated(), 1);
        x.ask(0, 6);
        due("39 never", x.never(), 2);
        due("45 hated", x.hated(), 3);
        due("40 no law", x.free(), 24);
        x.ask(0, 99);
        due("39 all", x.never(), 15);
        due("45 of several the first", x.hated(), 0);
        due("45 nobody", new NeedsALoser().hated(), -5);
        due("39 of none", new NeedsALoser().never(), 0);
        due("40 of none", new NeedsALoser().free(), 0);
    }

    // promises 41, 42
    private static void crosses() {
        NeedsALoser x = of(FOUR);
        due("41 cross", x.cross(0, 1, 0), 1);
        // 0 by 2 (11) or 3 (8), both PARTIES of 1; 1 by 0 (9) or 1 (12), both PARTIES of 0.
        due("41 value", x.cross(0, 1, 1), 23);
        due("41 value", x.cross(1, 0, 1), 23);
        x.bars(0, 1, true);
        due("41 bars aside", x.cross(0, 1, 1), 23);
        due("41 not", x.cross(0, 2, 0), 0);
        due("41 not", x.cross(0, 2, 1), V_STUCK);
        due("41 itself", x.cross(1, 1, 0), V_BAD);
        due("41 what", x.cross(0, 1, 2), V_BAD);
        due("41 what", x.cross(0, 1, -1), V_BAD);
        due("41 bargain", x.cross(4, 1, 0), V_BAD);
        due("41 other", x.cross(0, -1, 0), V_BAD);
        NeedsALoser one = of("one;one;one;deal 0 1 2 0 hurts 2 9;deal 0 2 1 0 hurts 1 3");
        due("41 below 0", one.cross(0, 1, 1), -9);
        // Rings: 0 by 2, a PARTY of 1; 1 by 4, a PARTY of 2; 2 by 0, a PARTY of 0.
        NeedsALoser y = of("one;one;one;one;one;one;deal 0 1 1 1 hurts 2 1;deal 2 3 1 1 hurts 4 1;deal 4 5 1 1 hurts 0 1");
        due("42 one", y.rings(), 1);
        y.hurts(2, 0, 0);
        due("42 not", y.rings(), 0);
        y.hurts(2, 2, 1);
        y.hurts(0, 4, 1);
        due("42 not yet round", y.rings(), 0);
        y.hurts(1, 0, 1);
        due("42 the other way round", y.rings(), 1);
        y.hurts(2, 0, 1);
        due("42 a set is one", y.rings(), 1);
        y.bargain(4, 5, 0, 0);
        y.hurts(3, 0, 1);
        due("42 two sets", y.rings(), 2);
        due("42 none", new NeedsALoser().rings(), 0);
    }

    // promises 43, 44
    private static void harms() {
        NeedsALoser x = of(FOUR);
        int[] harms = {5, 9, 3, 7};
        int[] twice = {5, 11, 4, 13};
        for (int t = 0; t < 4; t++) {
            due("43 harm", x.harm(t), harms[t]);
        }
        due("44 worst", x.worst(), 1);
        x.ask(1, 0);
        for (int t = 0; t < 4; t++) {
            due("43 twice", x.harm(t), twice[t]);
        }
        due("44 worst", x.worst(), 3);
        x.bars(0, 2, true);
        due("43 barred", x.harm(3), 7);
        due("43 barred", x.harm(1), 11);
        x.ask(0, 99);
        due("43 0 at least", x.harm(1), 0);
        due("44 of several the first", x.worst(), 0);
        due("43 one", x.harm(4), -2);
        due("43 one", x.harm(-1), -2);
        due("44 nobody", new NeedsALoser().worst(), -5);
    }

    // promises 46 to 48
    private static void court() {
        NeedsALoser x = of("one;one;one;one;deal 0 1 9 5 hurts 2 3 hurts 3 6;law 5");
        due("46 said", x.said(0, 2), 5 * 11 - 250);
        due("46 it is good", x.said(0, 3), V_STUCK);
        due("46 a party", x.said(0, 1), V_STUCK);
        due("46 third", x.said(0, 4), V_BAD);
        due("46 bargain", x.said(1, 0), V_BAD);
        due("46 bargain", x.said(-1, 0), V_BAD);
        due("47 none dares", x.dares(), 0);
        due("48 deters, just", x.deters(), 11);
        x.ask(3, 11);
        due("46 nothing", x.said(0, 2), 0);
        due("47 0 isn't more than 0", x.dares(), 0);
        x.ask(3, 10);
        due("47 dares", x.dares(), 1);
        x.ask(0, 7);
        due("47 dares", x.dares(), 1);
        x.ask(3, 7);
        due("47 dares", x.dares(), 2);
        x.ask(2, 3);
        // 7 times 11 is 77: FINES of 25 come to 75, of 26 to 78.
        due("48 rounded up", x.deters(), 26);
        x.ask(2, 0);
        due("48 none", x.deters(), -1);
        due("46 no court", x.said(0, 2), 110);
        x.ask(2, 10);
        due("48 0", x.deters(), 0);
        due("46 all court", x.said(0, 2), -70);
        x.ask(2, 1);
        x.hurts(0, 2, -97);
        // 9 times 111 is 999.
        due("48 999", x.deters(), 999);
        x.hurts(0, 2, -98);
        due("48 1000", x.deters(), -1);
        x.ask(2, 0);
        x.hurts(0, 2, 14);
        x.hurts(0, 3, 14);
        x.ask(0, 20);
        due("48 nothing brings more", x.deters(), 0);
        due("47 of none", new NeedsALoser().dares(), 0);
        due("48 of none", new NeedsALoser().deters(), 0);
    }

    // promises 49 to 51
    private static void otherLaws() {
        NeedsALoser x = of(FOUR);
        due("49 under 1", x.under(1), 36);
        // LEAST 3: 0 by 2, 3; 1 by 0; 2 by 3; 3 by 1.
        due("49 under 3", x.under(3), 33);
        // LEAST 4: 0 by 3 (8); 1 by 0 (9); 2 by 3 (13); 3 by 1 (-5).
        due("49 under 4", x.under(4), 22);
        due("49 under 99", x.under(99), 0);
        due("49 under 0", x.under(0), -2);
        due("49 under 100", x.under(100), -2);
        due("49 as it was", x.status(4), 1);
        due("50 best law", x.bestLaw(), 1);
        x.ask(0, 7);
        due("50 best law", x.bestLaw(), 1);
        due("49 under 3", x.under(3), 33);
        x.ask(0, 1);
        due("51 of itself", x.hiding(0, 2), 2);
        due("51 as it is", x.hiding(3, 2), 0);
        // 2 by 0 would be 19; 1 goes by 1, so that 3 is free for 0, but by 2 it is better.
        due("51 below", x.hiding(2, 0), 6);
        due("51 above", x.hiding(2, 3), 6);
        due("51 as it was", x.lossOf(2, 3), 7);
        due("51 party", x.hiding(0, 0), -5);
        due("51 third", x.hiding(0, 4), -2);
        due("51 bargain", x.hiding(4, 0), -2);
        due("50 of none", new NeedsALoser().bestLaw(), 1);
        due("49 of none", new NeedsALoser().under(5), 0);
    }

    // promises 52, 53, 55
    private static void draws() {
        NeedsALoser x = of("one;one;one;one;one;deal 0 1 9 5 hurts 2 3 hurts 3 6 hurts 4 1;deal 0 1 1 1 hurts 3 1 hurts 4 2");
        due("55 seed", x.seed(7), 1);
        int seed = 7;
        int[] named = new int[5];
        for (int week = 0; week < 20; week++) {
            due("52 week", x.week(), 2);
            seed = seed * 1103515245 + 12345;
            int first = 2 + (seed >>> 16) % 3;
            seed = seed * 1103515245 + 12345;
            int second = first == 2 ? 3 + (seed >>> 16) % 2 : 3 + 4 - first;
            named[first]++;
            named[second]++;
        }
        for (int t = 0; t < 5; t++) {
            due("54 named", x.named(t), named[t]);
        }
        due("58 seed", x.status(9), seed);
        due("58 weeks", x.status(2), 20);
        x.bars(0, 1, true);
        due("53 weeks", x.weeks(30), 30);
        due("58 made", x.status(3), 70);
        due("53 none", x.weeks(0), -2);
        due("53 31", x.weeks(31), -2);
        seed = x.seed(Integer.MIN_VALUE);
        x.ask(0, 99);
        due("52 none may", x.week(), 0);
        due("58 no draw", x.status(9), Integer.MIN_VALUE);
        due("55 the one ahead", x.seed(-5), Integer.MIN_VALUE);
        due("53 weeks", x.weeks(1), 0);
        due("58 weeks", x.status(2), 52);
    }

    // promises 56, 57
    private static void images() {
        NeedsALoser x = of(FOUR);
        due("57 nothing kept", x.back(), -5);
        x.rule(0, 1, 0);
        x.lives(0);
        x.feed('o');
        due("56 image", x.image(), 1);
        int[] before = picture(x);
        read(x, "one;deal 0 4 1 1;bars 0 1;law 3;once 0;court 1;fine 2;gains 0 2 9");
        x.weeks(3);
        x.feed('x');
        x.feed('y');
        x.row(5, 0, 1);
        due("57 back", x.back(), 1);
        int[] after = picture(x);
        for (int i = 0; i < before.length; i++) {
            due("57 as it was kept, " + i, after[i], before[i]);
        }
        due("57 but the tape", x.status(8), 2);
        due("57 but shelves", x.status(10), 2);
        due("57 but refusals", x.status(15), 1);
        x.one();
        due("57 again", x.back(), 1);
        due("57 again", x.status(0), 4);
        x.image();
        x.one();
        x.image();
        x.back();
        due("56 the newest", x.status(0), 5);
    }

    private static int[] picture(NeedsALoser x) {
        return new int[] {x.status(0), x.status(1), x.status(2), x.status(3), x.status(4), x.status(5),
            x.status(6), x.status(7), x.status(9), x.standing(0), x.standing(1), x.standing(2), x.standing(3),
            x.named(0), x.named(1), x.named(2), x.named(3), x.lossOf(0, 2), x.bargainOf(0, 4), x.bargainOf(1, 4)};
    }

    // promise 58
    private static void refusalCounts() {
        NeedsALoser x = new NeedsALoser();
        x.row(0, 0, 0);
        x.row(9, 0, 0);
        x.standing(0);
        x.town();
        x.gap(0);
        x.lives(0);
        x.gap(1);
        x.judge(1);
        x.judge(1);
        x.judge(2);
        x.fair();
        for (int i = 0; i < 12; i++) {
            x.one();
        }
        x.bestOf(0);
        int[] counts = {4, 2, 4, 1, 5};
        for (int i = 0; i < 5; i++) {
            due("58 refusals " + (-2 - i), x.status(12 + i), counts[i]);
        }
        due("58 shelves", x.status(10), 1);
        due("58 11", x.status(11), -1);
        due("58 17", x.status(17), -1);
        due("58 another", x.status(Integer.MAX_VALUE), -1);
    }
}
