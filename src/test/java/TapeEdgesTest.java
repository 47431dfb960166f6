import java.lang.reflect.InvocationTargetException;
import java.lang.reflect.Method;
import java.util.Arrays;
import java.util.Comparator;

/** Promises 14 to 16: for each sentence that names a boundary case a test of its own, each method one. */
public final class TapeEdgesTest {
    private static final String SEVEN = "one;one;one;one;one;one;one";
    private static String running = "";
    private static int wrong = 0;

    public static void main(String[] args) throws IllegalAccessException {
        Method[] methods = TapeEdgesTest.class.getDeclaredMethods();
        Arrays.sort(methods, Comparator.comparing(Method::getName));
        for (Method method : methods) {
            if (method.getName().matches("p\\d\\d_\\w+")) {
                running = method.getName();
                try {
                    method.invoke(null);
                } catch (InvocationTargetException thrown) {
                    wrong++;
                    System.out.println(running + " threw " + thrown.getCause());
                }
            }
        }
        System.out.println(wrong == 0 ? "all answers are as due" : wrong + " answers are not as due");
        if (wrong != 0) {
            System.exit(1);
        }
    }

    private static void due(String call, long got, long want) {
        if (got != want) {
            wrong++;
            System.out.println(running + ": " + call + " answered " + got + ", due is " + want);
        }
    }

    private static int read(NeedsALoser x, String text) {
        for (char letter : text.toCharArray()) {
            x.feed(letter);
        }
        return x.town();
    }

    /** A town of three PEOPLE and two BARGAINS, made by calls. */
    private static NeedsALoser small() {
        NeedsALoser x = new NeedsALoser();
        x.one();
        x.one();
        x.one();
        x.bargain(0, 1, 5, 6);
        x.bargain(1, 2, 7, 8);
        return x;
    }

    private static void unchanged(NeedsALoser x) {
        int[] due = {3, 2, 0, 0, 1, 1, 5, 50, 0, 1, 0, -1, 1, 0, 0, 0, 0};
        for (int what = 0; what < due.length; what++) {
            due("status " + what + " then", x.status(what), due[what]);
        }
        for (int b = 0; b < 2; b++) {
            due("bars then", x.bargainOf(b, 4), 0);
            for (int t = 0; t < 3; t++) {
                due("loss then", x.lossOf(b, t), 0);
            }
        }
    }

    private static void fault(String text, int place) {
        NeedsALoser x = small();
        due("town of '" + text + "'", read(x, text), -20 - place);
        unchanged(x);
    }

    private static NeedsALoser taken(String text, int statements) {
        NeedsALoser x = small();
        due("town of '" + text + "'", read(x, text), statements);
        due("refused", x.status(12), 0);
        return x;
    }

    // ---- 14: feed ----

    static void p14_theLeastAndTheGreatestByte() {
        NeedsALoser x = new NeedsALoser();
        due("0", x.feed(0), 1);
        due("255", x.feed(255), 2);
        int[] none = {-1, 256, Integer.MIN_VALUE, Integer.MAX_VALUE};
        for (int letter : none) {
            due("feed " + letter, x.feed(letter), -2);
        }
        due("status 8", x.status(8), 2);
    }

    static void p14_twoHundredAndFiftyBytesAtMost() {
        NeedsALoser x = new NeedsALoser();
        for (int i = 1; i <= 250; i++) {
            due("feed " + i, x.feed(32), i);
        }
        due("one more", x.feed(32), -6);
        due("bad ahead of full", x.feed(256), -2);
        due("status 8", x.status(8), 250);
        due("status 16", x.status(16), 1);
        due("wipe", x.wipe(), 250);
        due("room again", x.feed(32), 1);
    }

    static void p14_whatWasRefusedIsNotOnTheTape() {
        NeedsALoser x = new NeedsALoser();
        for (char letter : "one".toCharArray()) {
            x.feed(letter);
            x.feed(-1);
            x.feed(256 + ';');
        }
        due("town", x.town(), 1);
    }

    // ---- 15: wipe ----

    static void p15_anEmptyTapeIsNotRefused() {
        NeedsALoser x = new NeedsALoser();
        due("wipe", x.wipe(), 0);
        x.feed(200);
        due("wipe", x.wipe(), 1);
        due("wipe", x.wipe(), 0);
        due("status 12", x.status(12), 0);
        due("status 15", x.status(15), 0);
    }

    static void p15_whatWasOnTheTapeIsGone() {
        NeedsALoser x = new NeedsALoser();
        x.feed('A');
        x.wipe();
        due("town", read(x, "one"), 1);
    }

    // ---- 16: THE TAPE's size ----

    static void p16_anEmptyTapeEndsTooEarly() {
        fault("", 0);
    }

    static void p16_onlyBlanksEndTooEarly() {
        fault(" ", 1);
        fault("     ", 5);
    }

    static void p16_aFullTapeIsRead() {
        StringBuilder text = new StringBuilder("fine 7;court 1");
        while (text.length() < 249) {
            text.append(' ');
        }
        NeedsALoser x = small();
        due("with a fault at its last byte", read(x, text + ";"), -270);
        due("fine", x.status(7), 50);
        NeedsALoser y = small();
        due("250 bytes", read(y, text + " "), 2);
        due("fine", y.status(7), 7);
    }

    static void p16_aByteBeyondTheTapeIsNotRead() {
        StringBuilder text = new StringBuilder("law 7");
        while (text.length() < 248) {
            text.insert(0, ' ');
        }
        due("248 bytes", text.length(), 248);
        // Of the three digits two are read: 712 is no law, and its first byte stands in place 247.
        due("town", read(small(), text + "123"), -20 - 247);
        NeedsALoser x = small();
        due("without what could not stand there", read(x, text + "  @"), 1);
        due("law", x.status(4), 7);
    }

    static void p16_theTapeIsEmptyAfterItWasRead() {
        NeedsALoser x = taken("law 9", 1);
        due("status 8", x.status(8), 0);
        due("town again", x.town(), -20);
    }

    static void p16_theTapeIsEmptyAfterAFault() {
        NeedsALoser x = small();
        read(x, "law 0");
        due("status 8", x.status(8), 0);
        due("read then", read(x, "law 2"), 1);
        due("law", x.status(4), 2);
    }

    static void p16_aFaultIsRefusedAsBadOnly() {
        NeedsALoser x = small();
        read(x, "law");
        read(x, SEVEN);
        int[] due = {2, 0, 0, 0, 0};
        for (int i = 0; i < 5; i++) {
            due("status " + (12 + i), x.status(12 + i), due[i]);
        }
    }

    // ---- 16: bytes and TOKENS ----

    static void p16_bytesNextToThoseThatBeginTokens() {
        int[] none = {'a' - 1, 'z' + 1, '0' - 1, '9' + 1, ';' + 1, 31, 33, 'A', 'Z', '-', '+', ',', 0, 9, 10, 13, 127, 128, 160, 233, 255};
        for (int letter : none) {
            fault("law 7" + (char) letter, 5);
        }
    }

    static void p16_aByteThatBeginsNoneAtTheVeryFront() {
        fault("?one", 0);
        fault((char) 0 + "", 0);
        fault(" " + (char) 255, 1);
    }

    static void p16_aByteThatBeginsNoneBehindAnEarlierFaultIsNotTheFault() {
        fault("law x @", 4);
        fault("law @ x", 4);
    }

    static void p16_aByteThatBeginsNoneEndsATokenAheadOfIt() {
        fault("on@e", 0);
        fault("one@", 3);
        fault("law 1@2", 5);
    }

    static void p16_wordsAreAsLongAsCanBe() {
        fault("onelaw 7", 0);
        fault("oneone", 0);
        fault("lawz 7", 0);
        fault("alaw 7", 0);
        fault("on", 0);
        fault("o ne", 0);
    }

    static void p16_wordsThatAreNotQuiteTheseWords() {
        String[] words = {"one", "deal 0 1 1 1", "gains 0 2 1", "bars 0 1", "law 1", "once 1", "court 1", "fine 1"};
        for (String text : words) {
            int length = (text + " ").indexOf(' ');
            for (int i = 0; i < length; i++) {
                char letter = text.charAt(i);
                fault(text.substring(0, i) + (char) (letter == 'z' ? 'a' : letter + 1) + text.substring(i + 1), 0);
            }
            fault(text.substring(1), 0);
            fault(text.substring(0, length - 1) + text.substring(length), 0);
            fault(text.substring(0, length) + "s" + text.substring(length), 0);
            fault(text.substring(0, 1).toUpperCase() + text.substring(1), 0);
        }
        fault("deal 0 1 1 1 gurts 2 1", 13);
        fault("deal 0 1 1 1 hurtt 2 1", 13);
        fault("deal 0 1 1 1 hurt 2 1", 13);
        fault("deal 0 1 1 1 hurtss 2 1", 13);
    }

    static void p16_numbersAreAsLongAsCanBe() {
        due("12", taken("law 12", 1).status(4), 12);
        due("120", taken("fine 120", 1).status(7), 120);
        fault("law 1 2", 6);
        fault("law 120", 4);
    }

    static void p16_aWordEndsWhereDigitsBegin() {
        NeedsALoser x = taken("law7;fine123", 2);
        due("law", x.status(4), 7);
        due("fine", x.status(7), 123);
    }

    static void p16_aNumberEndsWhereAWordBegins() {
        NeedsALoser x = taken("deal0 2 3 4hurts1 5hurts1 6", 1);
        due("loss", x.lossOf(2, 1), 6);
        fault("law 7one", 5);
    }

    static void p16_blanksAnywhereBetween() {
        NeedsALoser x = taken("   law    7   ;    one  ;  deal   0   3   1   2   hurts   1   4  ", 3);
        due("people", x.status(0), 4);
        due("loss", x.lossOf(2, 1), 4);
    }

    static void p16_noBlanksAtAll() {
        NeedsALoser x = taken("one;law7;once0;court0;fine0", 5);
        due("people", x.status(0), 4);
        due("fine", x.status(7), 0);
    }

    static void p16_noBlankWithinAWordOrANumber() {
        fault("la w 7", 0);
        fault("law 7 7", 6);
    }

    static void p16_twoNumbersNeedABlankBetween() {
        fault("bars 01", 7);
        fault("bars 0", 6);
        fault("deal 01 2 3", 11);
    }

    // ---- 16: STATEMENTS ----

    static void p16_oneStatementIsEnough() {
        taken("one", 1);
    }

    static void p16_aSignWithNoStatementAheadOfIt() {
        fault(";", 0);
        fault(" ;one", 1);
        fault("one;;one", 4);
    }

    static void p16_aSignWithNoStatementBehindIt() {
        fault("law 7;", 6);
        fault("law 7;   ", 9);
        fault("law 7 ; ;", 8);
    }

    static void p16_aStatementWithNoSignAheadOfIt() {
        fault("one one", 4);
        fault("law 7 law 8", 6);
        fault("one 1", 4);
        fault("deal 0 1 1 1 bars 0 1", 13);
    }

    static void p16_noStatementBeginsSo() {
        fault("7", 0);
        fault("hurts 0 1", 0);
        fault("one;hurts 0 1", 4);
        fault("deal 0 1 1 1;hurts 2 1", 13);
        fault("least 7", 0);
        fault("x", 0);
    }

    static void p16_allOrNothing() {
        fault("one;deal 0 3 9 9 hurts 1 9;gains 0 2 9;bars 0 1;law 9;once 0;court 9;fine 9;onc", 76);
    }

    static void p16_itComesToWhatThereIs() {
        NeedsALoser x = taken("law 2", 1);
        due("people stay", x.status(0), 3);
        due("bargains stay", x.status(1), 2);
        due("once stays", x.status(5), 1);
        due("one more", read(x, "one"), 1);
        due("people", x.status(0), 4);
        due("law stays", x.status(4), 2);
    }

    static void p16_whatATextDoesNotTellStays() {
        NeedsALoser x = small();
        x.hurts(0, 2, 3);
        x.rule(0, 1, 0);
        x.lives(0);
        x.seed(77);
        due("town", read(x, "one;deal 0 3 1 1"), 2);
        due("standing", x.standing(2), -3);
        due("named", x.named(2), 1);
        due("weeks", x.status(2), 1);
        due("made", x.status(3), 1);
        due("seed", x.status(9), 77);
        due("shelves", x.status(10), 1);
        due("of the new", x.standing(3), 0);
        due("of the new", x.named(3), 0);
    }

    static void p16_asManyStatementsAsTheTapeHolds() {
        StringBuilder text = new StringBuilder("law 1");
        for (int i = 1; i < 41; i++) {
            text.append(";law 2");
        }
        due("bytes", text.length(), 245);
        NeedsALoser x = taken(text + ";law9", 42);
        due("law", x.status(4), 9);
    }

    // ---- 16: what may be told ----

    static void p16_partiesAreOfThePeopleThereAre() {
        taken("deal 2 0 1 1", 1);
        taken("deal 0 2 1 1", 1);
        fault("deal 3 0 1 1", 5);
        fault("deal 0 3 1 1", 7);
        fault("deal 999 0 1 1", 5);
    }

    static void p16_partiesMayBeOfTheSameText() {
        NeedsALoser x = taken("one;deal 3 0 1 2", 2);
        due("P", x.bargainOf(2, 0), 3);
        due("Q", x.bargainOf(2, 1), 0);
        fault("deal 3 0 1 2;one", 5);
    }

    static void p16_nobodyCanDealWhereNobodyIs() {
        NeedsALoser x = new NeedsALoser();
        due("of nobody", read(x, "deal 0 1 1 1"), -25);
        due("of one", read(x, "one;deal 0 1 1 1"), -31);
        due("of two", read(x, "one;one;deal 0 1 1 1"), 3);
    }

    static void p16_aPartyQThatIsP() {
        fault("deal 1 1 9 9", 7);
        fault("deal 1   01 9 9", 9);
        fault("deal 0 0 100 9", 7);
    }

    static void p16_theLeastAndTheGreatestGains() {
        NeedsALoser x = taken("deal 0 1 0 99;deal 0 1 99 0", 2);
        due("of P", x.bargainOf(2, 2), 0);
        due("of Q", x.bargainOf(2, 3), 99);
        due("of P", x.bargainOf(3, 2), 99);
        due("of Q", x.bargainOf(3, 3), 0);
        fault("deal 0 1 100 1", 9);
        fault("deal 0 1 1 100", 11);
    }

    static void p16_noHurtsOneOrMany() {
        taken("deal 0 1 1 1", 1);
        due("one", taken("deal 0 1 1 1 hurts 2 9", 1).lossOf(2, 2), 9);
        NeedsALoser x = taken("deal 0 1 1 1 hurts 0 1 hurts 1 2 hurts 2 3", 1);
        for (int t = 0; t < 3; t++) {
            due("loss of " + t, x.lossOf(2, t), t + 1);
        }
    }

    static void p16_hurtsTwiceIsTheLast() {
        due("loss", taken("deal 0 1 1 1 hurts 2 9 hurts 2 4", 1).lossOf(2, 2), 4);
    }

    static void p16_theLeastAndTheGreatestOfHurts() {
        due("0", taken("deal 0 1 1 1 hurts 2 0", 1).lossOf(2, 2), 0);
        due("99", taken("deal 0 1 1 1 hurts 2 99", 1).lossOf(2, 2), 99);
        fault("deal 0 1 1 1 hurts 2 100", 21);
        fault("deal 0 1 1 1 hurts 2 -1", 21);
    }

    static void p16_hurtsOfThePeopleThereAre() {
        taken("deal 0 1 1 1 hurts 2 1", 1);
        fault("deal 0 1 1 1 hurts 3 1", 19);
    }

    static void p16_hurtsOfAParty() {
        NeedsALoser x = taken("deal 0 1 1 1 hurts 0 50 hurts 1 60", 1);
        due("told again", x.lossOf(2, 0), 50);
        due("told again", x.lossOf(2, 1), 60);
        due("for nothing", x.good(2), 0);
    }

    static void p16_theLeastAndTheGreatestOfGainsByABargain() {
        due("0", taken("gains 0 2 0", 1).lossOf(0, 2), 0);
        due("99", taken("gains 0 2 99", 1).lossOf(0, 2), -99);
        fault("gains 0 2 100", 10);
    }

    static void p16_gainsMakesTheLossWhateverItWas() {
        NeedsALoser x = small();
        x.hurts(0, 2, 40);
        due("town", read(x, "gains 0 2 3"), 1);
        due("loss", x.lossOf(0, 2), -3);
        due("town", read(x, "gains 0 2 0"), 1);
        due("loss", x.lossOf(0, 2), 0);
    }

    static void p16_gainsOfBargainsAndPeopleThereAre() {
        due("the last", taken("gains 1 2 5", 1).lossOf(1, 2), -5);
        fault("gains 2 2 5", 6);
        fault("gains 1 3 5", 8);
        due("of the same text", taken("deal 0 1 1 1;gains 2 2 5", 2).lossOf(2, 2), -5);
        fault("gains 2 2 5;deal 0 1 1 1", 6);
    }

    static void p16_gainsOfAParty() {
        NeedsALoser x = taken("gains 0 0 8;gains 0 1 9", 2);
        due("told again", x.lossOf(0, 0), -8);
        due("told again", x.lossOf(0, 1), -9);
    }

    static void p16_barsOfBargainsThereAre() {
        NeedsALoser x = taken("bars 1 0", 1);
        due("of 0", x.bargainOf(0, 4), 2);
        due("of 1", x.bargainOf(1, 4), 1);
        fault("bars 2 0", 5);
        fault("bars 0 2", 7);
        due("of the same text", taken("deal 0 1 1 1;bars 2 0", 2).bargainOf(2, 4), 1);
    }

    static void p16_aBargainCThatIsB() {
        fault("bars 0 0", 7);
        fault("bars 1 001", 7);
    }

    static void p16_barsThatAreSoAlready() {
        NeedsALoser x = taken("bars 0 1;bars 1 0;bars 0 1", 3);
        due("of 0", x.bargainOf(0, 4), 2);
        due("of 1", x.bargainOf(1, 4), 1);
    }

    static void p16_theLeastAndTheGreatestLaw() {
        due("1", taken("law 1", 1).status(4), 1);
        due("99", taken("law 99", 1).status(4), 99);
        fault("law 0", 4);
        fault("law 100", 4);
    }

    static void p16_theLeastAndTheGreatestOnce() {
        due("0", taken("once 0", 1).status(5), 0);
        due("1", taken("once 1", 1).status(5), 1);
        fault("once 2", 5);
    }

    static void p16_theLeastAndTheGreatestCourt() {
        due("0", taken("court 0", 1).status(6), 0);
        due("10", taken("court 10", 1).status(6), 10);
        fault("court 11", 6);
    }

    static void p16_theLeastAndTheGreatestFine() {
        due("0", taken("fine 0", 1).status(7), 0);
        due("999", taken("fine 999", 1).status(7), 999);
        fault("fine 1000", 5);
    }

    static void p16_threeDigitsAtMost() {
        due("007", taken("law 007", 1).status(4), 7);
        due("000", taken("fine 000", 1).status(7), 0);
        fault("law 0007", 4);
        fault("fine 0000", 5);
        fault("bars 0000 1", 5);
    }

    static void p16_numbersThatWouldWrapAround() {
        fault("law 4294967297", 4);
        fault("once 18446744073709551616", 5);
        fault("deal 4294967296 1 1 1", 5);
    }

    // ---- 16: where it ends too early ----

    static void p16_everyStatementThatEndsTooEarly() {
        String[] texts = {"deal", "deal 0", "deal 0 1", "deal 0 1 2", "deal 0 1 2 3 hurts", "deal 0 1 2 3 hurts 2",
            "gains", "gains 0", "gains 0 2", "bars", "bars 0", "law", "once", "court", "fine"};
        for (String text : texts) {
            fault(text, text.length());
            fault(text + "  ", text.length() + 2);
        }
    }

    static void p16_aSignWhereANumberIsDue() {
        String[] texts = {"deal", "deal 0", "deal 0 1", "deal 0 1 2", "deal 0 1 2 3 hurts", "deal 0 1 2 3 hurts 2",
            "gains", "gains 0", "gains 0 2", "bars", "bars 0", "law", "once", "court", "fine"};
        for (String text : texts) {
            fault(text + ";one", text.length());
            fault(text + " one", text.length() + 1);
        }
    }

    static void p16_oneNumberTooMany() {
        fault("one 0", 4);
        fault("deal 0 1 2 3 4", 13);
        fault("deal 0 1 2 3 hurts 2 1 1", 23);
        fault("gains 0 2 1 1", 12);
        fault("bars 0 1 1", 9);
        fault("law 1 1", 6);
        fault("once 1 1", 7);
        fault("court 1 1", 8);
        fault("fine 1 1", 7);
    }

    // ---- 16: no room ----

    static void p16_sevenPeopleAndNoMore() {
        due("four more", taken("one;one;one;one", 4).status(0), 7);
        fault("one;one;one;one;one", 16);
        fault("one;one;one;one;  one;law 0", 18);
    }

    static void p16_sevenBargainsAndNoMore() {
        String deals = "deal 0 1 1 1;deal 0 1 1 1;deal 0 1 1 1;deal 0 1 1 1;deal 0 1 1 1";
        due("five more", taken(deals, 5).status(1), 7);
        fault(deals + ";deal 0 1 1 1", 65);
        fault(deals + "; deal", 66);
        fault(deals + ";deal 9 9 x", 65);
    }

    static void p16_noRoomLeavesAllAsItWas() {
        NeedsALoser x = new NeedsALoser();
        due("eight", read(x, SEVEN + ";one"), -20 - 28);
        due("nobody came", x.status(0), 0);
        due("seven", read(x, SEVEN), 7);
        due("people", x.status(0), 7);
        due("one more", read(x, "law 9;one"), -26);
        due("law", x.status(4), 1);
        due("not full, but bad", x.status(16), 0);
        due("bad", x.status(12), 2);
    }
}
