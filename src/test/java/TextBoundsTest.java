import java.util.function.ToIntFunction;

/**
 * The boundary cases of the TAPE, the TEXTS and what THE LAW tells: part 2 of the terms, the promises 8 to 11 and 13.
 * Each sentence that names one has a method of its own, which begins with the promise's number.
 */
public final class TextBoundsTest {
    private static final int NONE = ArcadePoles.NONE;
    private static final int MIN = Integer.MIN_VALUE;
    private static final int MAX = Integer.MAX_VALUE;
    private static final int LAW = 0;
    private static final int ROUNDS = 1;
    private static final int CALENDAR = 2;
    private static final int LANES = 3;
    private static final Due due = new Due("TextBoundsTest");

    public static void main(String[] args) {
        tape();
        tokens();
        faultsOfTheLaw();
        faultsOfTheOthers();
        theLaw();
        due.close();
    }

    private static void tape() {
        p8MoreThan400();
        p8BytesOfANumber();
        p9HasNotSoMany();
        p9CutAndFedAgain();
        p10NoSuchOne();
        p10EmptyWithAFault();
        p10TheTextStays();
        p10EmptyTexts();
        p10WholeTape();
        p10OneOfEach();
        p11AnotherWhat();
        p11OfTheLatest();
    }

    private static void tokens() {
        tOneToFourDigits();
        tLettersTogether();
        tBlanksAreTwo();
        tSignsAreTen();
        tNoBlanksNeeded();
        tWordsOfAnotherText();
    }

    private static void faultsOfTheLaw() {
        fAtTheEnd();
        fWhatCantStandThere();
        fFirstByItsPlace();
        fPartByZero();
        fNinthThatIsOpen();
        fClosedOnesDontCount();
        fSeventeenthLine();
    }

    private static void faultsOfTheOthers() {
        fRounds();
        fCalendarDay();
        fCalendarStock();
        fCalendarPrice();
        fCalendarGive();
        fCalendarPush();
        fArcade();
        fNoShopsAtAll();
        fTwelfthAndEighteenth();
    }

    private static void theLaw() {
        lHeldToItsBounds();
        lWithoutLines();
        lFirstThatIsSo();
        lTowardsZero();
        lWraps();
        lComparesAtTheEdge();
        lDeepest();
        lOrsAndAndsOnEnd();
        lEmptyShop();
        lEachWord();
    }

    private static int bit(boolean yes) {
        return yes ? 1 : 0;
    }

    private static ArcadePoles arcade(int shops, int customers) {
        ArcadePoles x = new ArcadePoles();
        for (int s = 0; s < shops; s++) {
            x.shop(9, 30);
        }
        for (int c = 0; c < customers; c++) {
            x.customer(500, 3);
        }
        return x;
    }

    /** Read in an arcade of two shops and two customers. */
    private static void isFine(int k, String told, int lines) {
        ArcadePoles x = arcade(2, 2);
        due.is("10: text " + k + " <" + told + ">", Due.text(x, k, told), lines);
        due.is("11: no fault of <" + told + ">", x.fault(0), 0);
        due.is("11: no place of <" + told + ">", x.fault(1), NONE);
        due.is("10: lines of <" + told + ">", x.look(8 + k), lines);
    }

    private static void isFault(int k, String told, int which, int place) {
        ArcadePoles x = arcade(2, 2);
        due.is("10: text " + k + " <" + told + ">", Due.text(x, k, told), NONE);
        due.is("11: fault of " + k + " <" + told + ">", x.fault(0), which);
        due.is("11: place of " + k + " <" + told + ">", x.fault(1), place);
        due.is("10: no lines of " + k + " <" + told + ">", x.look(8 + k), 0);
    }

    private static void refused(String what, ToIntFunction<ArcadePoles> call, int answer) {
        Refusal.is(due, what, Refusal::filled, call, answer);
    }

    private static ArcadePoles fullTape(int bytes) {
        ArcadePoles x = Refusal.filled();
        x.end(0);
        for (int i = 0; i < 20; i++) {
            x.feed(0, 0, 0, 0, 0);
        }
        x.end(bytes);
        return x;
    }

    private static void p8MoreThan400() {
        ArcadePoles x = new ArcadePoles();
        for (int i = 1; i <= 20; i++) {
            due.is("8: feed " + i, x.feed(i, i, i, i, i), 20 * i);
        }
        due.is("8: the 21st", x.feed(0, 0, 0, 0, 0), NONE);
        due.yes("8: 400 bytes yet", x.end(400));
        due.no("8: and no more", x.end(401));
        for (int bytes = 380; bytes <= 400; bytes++) {
            ArcadePoles y = fullTape(bytes);
            due.is("8: twenty behind " + bytes, y.feed(0, 0, 0, 0, 0), bytes == 380 ? 400 : NONE);
            due.yes("8: nothing comes to " + bytes, bytes == 380 || y.end(bytes) && !y.end(bytes + 1));
        }
    }

    private static void p8BytesOfANumber() {
        ArcadePoles x = arcade(1, 1);
        // "buys 123;" with blanks: the highest byte of each number comes first.
        x.feed(0x62757973, 0x20313233, 0x3b202020, 0x20202020, 0x20202020);
        due.is("8: the highest first", x.text(LAW), 1);
        due.is("8: 123", x.who(0, 10), 123);
        for (int number : new int[] {MIN, -1, 0xff202020}) {
            x.feed(number, 0, 0, 0, 0);
            due.is("8: a byte above 127", x.text(LAW), NONE);
            due.is("8: stands first", x.fault(1), 0);
        }
        x.feed(0x202020ff, 0, 0, 0, 0);
        x.text(LAW);
        due.is("8: stands fourth", x.fault(1), 3);
    }

    private static void p9HasNotSoMany() {
        for (int n : new int[] {MIN, -1, 21, 400, MAX}) {
            refused("9: end(" + n + ")", x -> bit(x.end(n)), 0);
        }
        ArcadePoles x = Refusal.filled();
        due.yes("9: all", x.end(20));
        due.yes("9: one less", x.end(19));
        due.no("9: the one is gone", x.end(20));
        due.yes("9: none", x.end(0));
        due.yes("9: none of none", x.end(0));
        due.no("9: one of none", x.end(1));
    }

    private static void p9CutAndFedAgain() {
        ArcadePoles x = arcade(1, 1);
        x.feed(0x62757973, 0x20312020, 0x3f3f3f3f, 0x3f3f3f3f, 0x3f3f3f3f);
        due.yes("9: the first six", x.end(6));
        due.is("9: twenty behind six", x.feed(0x323b2020, 0x20202020, 0x20202020, 0x20202020, 0x20202020), 26);
        due.is("9: read as one", x.text(LAW), 1);
        due.is("9: 12", x.who(0, 10), 12);
    }

    private static void p10NoSuchOne() {
        for (int k : new int[] {MIN, -1, 4, MAX}) {
            ArcadePoles x = Refusal.filled();
            int kept = x.look(12);
            due.is("10: text(" + k + ")", x.text(k), NONE);
            due.is("10: fault() tells 0", x.fault(0), 0);
            due.is("10: no place", x.fault(1), NONE);
            due.no("10: the tape is empty", x.end(1));
            for (int what = 8; what <= 11; what++) {
                due.is("10: lines, look(" + what + ")", x.look(what), Refusal.filled().look(what));
            }
            due.is("10: refused, it forgets nothing", x.look(12), kept);
        }
    }

    private static void p10EmptyWithAFault() {
        ArcadePoles x = arcade(1, 1);
        for (int k = 0; k < 4; k++) {
            x.feed(0, 0, 0, 0, 0);
            due.is("10: a fault of " + k, x.text(k), NONE);
            due.no("10: the tape is empty then", x.end(1));
            due.is("10: an empty one behind it", x.text(k), 0);
            due.is("10: without a fault", x.fault(0), 0);
        }
    }

    private static void p10TheTextStays() {
        String[] told = {"buys 7;", "customer 0 at 1 out;", "on 5 push 0 0;", "shop 0 by shop 1 7;"};
        for (int k = 0; k < 4; k++) {
            ArcadePoles x = arcade(2, 1);
            for (int i = 0; i < 4; i++) {
                Due.text(x, i, told[i]);
            }
            due.is("10: one line and a fault", Due.text(x, k, told[k] + told[k] + "?"), NONE);
            due.is("10: the text stays", x.look(8 + k), 1);
            due.is("10: buys", x.who(0, 10), 7);
            due.is("10: steps", x.of(0, 11), 7);
        }
    }

    private static void p10EmptyTexts() {
        for (int k = 0; k < 4; k++) {
            isFine(k, "", 0);
            isFine(k, " ", 0);
            isFine(k, "\n\n  \n", 0);
            isFine(k, " ".repeat(400), 0);
        }
        ArcadePoles x = arcade(2, 1);
        Due.text(x, LAW, "buys 7;");
        due.is("10: an empty law", x.text(LAW), 0);
        due.is("10: is told", x.who(0, 10), 600);
        Due.text(x, LANES, "shop 0 by shop 1 7;");
        due.is("10: an empty arcade", x.text(LANES), 0);
        due.is("10: is told as well", x.of(0, 11), NONE);
    }

    private static void p10WholeTape() {
        String plus = "buys 1" + "+1".repeat(196) + ";";
        isFine(LAW, plus + " ", 1);
        isFault(LAW, plus.substring(0, 398) + "+;", 1, 399);
        isFault(LAW, "buys 1" + "+1".repeat(197), 1, 400);
        ArcadePoles x = arcade(1, 1);
        Due.text(x, LAW, plus);
        due.is("10: 197 ones", x.who(0, 10), 197);
        Due.text(x, LAW, "buys 1" + "*1+2".repeat(98) + ";");
        due.is("10: 98 twos and a one", x.who(0, 10), 197);
    }

    private static void p10OneOfEach() {
        isFine(LAW, "buys 0;", 1);
        isFine(LAW, "yields 0 when 0=0;", 1);
        isFine(LAW, "costs 9999;", 1);
        isFine(ROUNDS, "customer 0 at 0 in 0;", 1);
        isFine(ROUNDS, "customer 1 at 11 out;", 1);
        isFine(CALENDAR, "on 0 stock 0 0;on 0 price 0 1;on 0 give 0 1;on 0 push 0 0;", 4);
        isFine(CALENDAR, "on 999 stock 1 99;on 999 price 1 99;on 999 give 1 999;on 999 push 1 1;", 4);
        isFine(LANES, "shop 0 by shop 1 1;shop 1 by shop 0 99;", 2);
    }

    private static void p11AnotherWhat() {
        ArcadePoles x = Refusal.filled();
        for (int what : new int[] {MIN, -1, 2, MAX}) {
            due.is("11: what " + what, x.fault(what), NONE);
        }
    }

    private static void p11OfTheLatest() {
        ArcadePoles x = arcade(1, 1);
        due.is("11: none read yet", x.fault(0) * 10 + x.fault(1), NONE);
        Due.text(x, LAW, "buys 1/0;");
        due.is("11: a fault", x.fault(0) * 10 + x.fault(1), 27);
        x.feed(0, 0, 0, 0, 0);
        x.end(0);
        due.is("11: feed() and end() leave it", x.fault(0) * 10 + x.fault(1), 27);
        Due.text(x, LAW, "buys");
        due.is("11: another", x.fault(0) * 10 + x.fault(1), 14);
        Due.text(x, LAW, "buys 1;");
        due.is("11: 0 without one", x.fault(0) * 10 + x.fault(1), NONE);
    }

    private static void tOneToFourDigits() {
        isFine(LAW, "buys 0;", 1);
        isFine(LAW, "buys 9999;", 1);
        isFine(LAW, "buys 0000;", 1);
        isFine(LANES, "shop 0000 by shop 0001 0099;", 1);
        isFault(LAW, "buys 10000;", 1, 5);
        isFault(LAW, "buys 00001;", 1, 5);
        isFault(LAW, "buys 1/00000;", 1, 7);
        isFault(LAW, "buys 99999999999999999999;", 1, 5);
        isFault(LANES, "shop 0 by shop 1 00001;", 1, 17);
        isFault(LAW, "buys 12 34;", 1, 8);
        ArcadePoles x = arcade(1, 1);
        Due.text(x, LAW, "buys 0012;");
        due.is("T2: 0012 is 12", x.who(0, 10), 12);
        Due.text(x, LAW, "buys 9999-9000;");
        due.is("T2: 9999 is 9999", x.who(0, 10), 999);
    }

    private static void tLettersTogether() {
        isFault(LAW, "buy 1;", 1, 0);
        isFault(LAW, "buyss 1;", 1, 0);
        isFault(LAW, "BUYS 1;", 1, 0);
        isFault(LAW, "buyS 1;", 1, 0);
        isFault(LAW, "bu ys 1;", 1, 0);
        isFault(LAW, "buys hourday;", 1, 5);
        isFault(LAW, "buys 1 whennot 1=1;", 1, 7);
        isFault(LAW, "buys z;", 1, 5);
        isFault(LAW, "buys A;", 1, 5);
        isFault(LAW, "buys " + "x".repeat(395), 1, 5);
    }

    private static void tBlanksAreTwo() {
        isFine(LAW, "\nbuys\n1\n;\n", 1);
        isFine(LAW, "  buys  1  ;  ", 1);
        for (char sign : new char[] {0, 1, 9, 11, 12, 13, 31, 127, 128, 160, 255}) {
            isFault(LAW, "buys" + sign + "1;", 1, 4);
            isFault(LAW, "buys 1;" + sign, 1, 7);
        }
    }

    /** All other bytes that stand beside letters, digits and signs are none. */
    private static void tSignsAreTen() {
        for (int sign = 0; sign < 256; sign++) {
            boolean blank = sign == 32 || sign == 10;
            boolean ends = sign == ';';
            boolean goesOn = "+-*".indexOf(sign) >= 0;
            boolean digit = sign >= '0' && sign <= '9';
            if (blank) {
                isFine(LAW, "buys 1" + (char) sign + ";", 1);
            } else if (ends) {
                isFault(LAW, "buys 1;;", 1, 7);
            } else if (goesOn) {
                isFault(LAW, "buys 1" + (char) sign + ";", 1, 7);
            } else if (digit) {
                isFine(LAW, "buys 1" + (char) sign + ";", 1);
            } else {
                isFault(LAW, "buys 1" + (char) sign + ";", 1, sign == '/' ? 7 : 6);
            }
        }
    }

    private static void tNoBlanksNeeded() {
        isFine(LAW, "buys1when1<2and2>1or not(3=3);costs2;", 2);
        isFine(ROUNDS, "customer0at0in1;customer1at11out;", 2);
        isFine(CALENDAR, "on0stock0 0;on999push1 1;", 2);
        isFine(LANES, "shop0by shop1 9;", 1);
        isFault(LANES, "shop0byshop1 9;", 1, 5);
        isFault(CALENDAR, "on0stock00;", 1, 10);
    }

    private static void tWordsOfAnotherText() {
        isFault(LAW, "customer 0 at 0 out;", 1, 0);
        isFault(LAW, "buys stock;", 1, 5);
        isFault(LAW, "buys 1 at 1;", 1, 7);
        isFault(ROUNDS, "on 0 push 0 0;", 1, 0);
        isFault(ROUNDS, "customer 0 at hour out;", 1, 14);
        isFault(CALENDAR, "shop 0 by shop 1 1;", 1, 0);
        isFault(CALENDAR, "on 0 goods 0 1;", 1, 5);
        isFault(CALENDAR, "on day push 0 0;", 1, 3);
        isFault(LANES, "buys 1;", 1, 0);
        isFault(LANES, "shop 0 at shop 1 1;", 1, 7);
    }

    private static void fAtTheEnd() {
        String[] law = {"buys", "buys 1", "buys 1 +", "buys 1 /", "buys 1 when", "buys 1 when 1", "buys 1 when 1 <",
            "buys 1 when 1<2", "buys 1 when not", "buys 1 when (", "buys 1 when (1=1", "buys 1 when 1=1 and",
            "buys 1; costs"};
        for (String told : law) {
            isFault(LAW, told, 1, told.length());
            isFault(LAW, told + " \n ", 1, told.length() + 3);
        }
        String[][] others = {{"customer", "customer 0", "customer 0 at", "customer 0 at 0", "customer 0 at 0 in",
            "customer 0 at 0 in 0", "customer 0 at 0 out"}, {"on", "on 0", "on 0 push", "on 0 push 0",
            "on 0 push 0 0", "on 0 stock", "on 0 stock 0", "on 0 give 0"}, {"shop", "shop 0", "shop 0 by",
            "shop 0 by shop", "shop 0 by shop 1", "shop 0 by shop 1 1"}};
        for (int k = 1; k < 4; k++) {
            for (String told : others[k - 1]) {
                isFault(k, told, 1, told.length());
                isFault(k, told + " \n ", 1, told.length() + 3);
            }
        }
    }

    private static void fWhatCantStandThere() {
        isFault(LAW, ";", 1, 0);
        isFault(LAW, "1;", 1, 0);
        isFault(LAW, "buys when 1=1;", 1, 5);
        isFault(LAW, "buys +1;", 1, 5);
        isFault(LAW, "buys 1++1;", 1, 7);
        isFault(LAW, "buys (1);", 1, 5);
        isFault(LAW, "buys 1/day;", 1, 7);
        isFault(LAW, "buys 1/(2);", 1, 7);
        isFault(LAW, "buys 1 when 1=1=1;", 1, 15);
        isFault(LAW, "buys 1 when (1=1;", 1, 16);
        isFault(LAW, "buys 1 when 1=1);", 1, 15);
        isFault(LAW, "buys 1 when ();", 1, 13);
        isFault(LAW, "buys 1 when (1)=1;", 1, 14);
        isFault(LAW, "buys 1 when not;", 1, 15);
        isFault(LAW, "buys 1 when or 1=1;", 1, 12);
        isFault(LAW, "buys 1 when 1=1 not 1=1;", 1, 16);
        isFault(LAW, "buys 1 when 1=1 when 1=1;", 1, 16);
        isFault(LAW, "buys 1 costs 1;", 1, 7);
        isFault(ROUNDS, "customer 0 at 0 in out;", 1, 19);
        isFault(ROUNDS, "customer 0 at 0 out 0;", 1, 20);
        isFault(ROUNDS, "customer 0 0 out;", 1, 11);
        isFault(CALENDAR, "on 0 push 0 0 0;", 1, 14);
        isFault(CALENDAR, "on 0 push;", 1, 9);
        isFault(LANES, "shop 0 by 1 1;", 1, 10);
        isFault(LANES, "shop 0 by shop 1;", 1, 16);
        isFault(LANES, "shop 0 by shop 1 1 1;", 1, 19);
    }

    private static void fFirstByItsPlace() {
        isFault(LAW, "buys 1/0 ?;", 2, 7);
        isFault(LAW, "buys ? 1/0;", 1, 5);
        isFault(LAW, "buys 1; ; costs 1/0;", 1, 8);
        isFault(ROUNDS, "customer 9 at 99 in 9;", 2, 9);
        isFault(ROUNDS, "customer 0 at 99 in 9;", 2, 14);
        isFault(CALENDAR, "on 1000 push 9 9;", 2, 3);
        isFault(CALENDAR, "on 0 push 9 ?;", 2, 10);
        isFault(LANES, "shop 9 by shop 9 0;", 2, 5);
        isFault(LANES, "shop 0 by shop 0 0;", 2, 15);
    }

    private static void fPartByZero() {
        isFault(LAW, "buys 1/0;", 2, 7);
        isFault(LAW, "buys 1 / 0000;", 2, 9);
        isFault(LAW, "buys 1/2/0;", 2, 9);
        isFault(LAW, "buys 0 when 1/0=1;", 2, 14);
        isFault(LAW, "buys 0 when 1=1/0;", 2, 16);
        isFault(LAW, "buys 0 when (1=1/0);", 2, 17);
        isFault(LAW, "buys 0 when not 1=1 or not 1=1/0;", 2, 31);
        isFine(LAW, "buys 0/1;", 1);
        isFine(LAW, "buys 1/9999;", 1);
        isFine(LAW, "buys 1/0001;", 1);
    }

    private static void fNinthThatIsOpen() {
        isFine(LAW, "buys 1 when " + "(".repeat(8) + "1=1" + ")".repeat(8) + ";", 1);
        isFine(LAW, "buys 1 when " + "not ".repeat(8) + "1=1;", 1);
        isFine(LAW, "buys 1 when " + "not(".repeat(4) + "1=1" + ")".repeat(4) + ";", 1);
        isFault(LAW, "buys 1 when " + "(".repeat(9) + "1=1" + ")".repeat(9) + ";", 3, 20);
        isFault(LAW, "buys 1 when " + "not ".repeat(9) + "1=1;", 3, 44);
        isFault(LAW, "buys 1 when " + "not(".repeat(4) + "not 1=1" + ")".repeat(4) + ";", 3, 28);
        isFault(LAW, "buys 1 when " + "not(".repeat(4) + "(1=1" + ")".repeat(5) + ";", 3, 28);
        isFault(LAW, "buys 1 when " + "(".repeat(9), 3, 20);
        isFault(LAW, "buys 1 when " + "(".repeat(300), 3, 20);
        isFault(LAW, "buys 1 when " + "(".repeat(8), 1, 20);
        isFault(LAW, "buys 1 when " + "(".repeat(8) + ")", 1, 20);
        isFault(LAW, "buys 1 when " + "(".repeat(8) + "1=1 and not 1=1", 3, 28);
    }

    private static void fClosedOnesDontCount() {
        String eight = "(".repeat(8) + "1=1" + ")".repeat(8);
        isFine(LAW, "buys 1 when " + eight + " and " + eight + " or " + eight + ";", 1);
        isFine(LAW, "buys 1 when " + "not 1=1 and ".repeat(9) + "not 1=1;", 1);
        isFine(LAW, "buys 1 when " + "(1=1) or ".repeat(9) + "(1=1);", 1);
        isFine(LAW, "buys 1 when " + eight + ";buys 1 when " + eight + ";", 2);
        isFine(LAW, "buys 1 when ((((((( (1=1) and not 1=1 or (1=2) )))))));", 1);
        isFault(LAW, "buys 1 when ((((((( (1=1) and not not 1=1", 3, 34);
        isFault(LAW, "buys 1 when " + eight + " and (" + eight, 3, 44);
    }

    private static void fSeventeenthLine() {
        String[] line = {"buys 1;", "customer 0 at 0 out;", "on 0 push 0 0;", "shop 0 by shop 1 1;"};
        String[] word = {"costs", "customer", "on", "shop"};
        for (int k = 0; k < 4; k++) {
            String sixteen = line[k].repeat(16);
            isFine(k, sixteen, 16);
            isFine(k, sixteen + "  ", 16);
            isFault(k, sixteen + " " + word[k], 3, sixteen.length() + 1);
            isFault(k, sixteen + line[k], 3, sixteen.length());
            isFault(k, sixteen + "when", 1, sixteen.length());
            isFault(k, sixteen + ";", 1, sixteen.length());
        }
    }

    private static void fRounds() {
        isFault(ROUNDS, "customer 2 at 0 out;", 2, 9);
        isFault(ROUNDS, "customer 9999 at 0 out;", 2, 9);
        isFault(ROUNDS, "customer 0 at 12 out;", 2, 14);
        isFault(ROUNDS, "customer 0 at 9999 out;", 2, 14);
        isFault(ROUNDS, "customer 0 at 0 in 2;", 2, 19);
        isFine(ROUNDS, "customer 1 at 11 in 1;", 1);
    }

    private static void fCalendarDay() {
        isFault(CALENDAR, "on 1000 push 0 0;", 2, 3);
        isFault(CALENDAR, "on 9999 push 0 0;", 2, 3);
        isFine(CALENDAR, "on 999 push 0 0;", 1);
        isFine(CALENDAR, "on 0 push 0 0;", 1);
    }

    private static void fCalendarStock() {
        isFault(CALENDAR, "on 0 stock 2 0;", 2, 11);
        isFault(CALENDAR, "on 0 stock 0 100;", 2, 13);
        isFine(CALENDAR, "on 0 stock 1 99; on 0 stock 0 0;", 2);
    }

    private static void fCalendarPrice() {
        isFault(CALENDAR, "on 0 price 2 1;", 2, 11);
        isFault(CALENDAR, "on 0 price 0 0;", 2, 13);
        isFault(CALENDAR, "on 0 price 0 100;", 2, 13);
        isFine(CALENDAR, "on 0 price 1 99; on 0 price 0 1;", 2);
    }

    private static void fCalendarGive() {
        isFault(CALENDAR, "on 0 give 2 1;", 2, 10);
        isFault(CALENDAR, "on 0 give 0 0;", 2, 12);
        isFault(CALENDAR, "on 0 give 0 1000;", 2, 12);
        isFine(CALENDAR, "on 0 give 1 999; on 0 give 0 1;", 2);
    }

    private static void fCalendarPush() {
        isFault(CALENDAR, "on 0 push 2 0;", 2, 10);
        isFault(CALENDAR, "on 0 push 0 2;", 2, 12);
        isFine(CALENDAR, "on 0 push 1 1; on 0 push 0 0;", 2);
    }

    private static void fArcade() {
        isFault(LANES, "shop 2 by shop 0 1;", 2, 5);
        isFault(LANES, "shop 0 by shop 2 1;", 2, 15);
        isFault(LANES, "shop 0 by shop 0 1;", 2, 15);
        isFault(LANES, "shop 1 by shop 0001 1;", 2, 15);
        isFault(LANES, "shop 0 by shop 1 0;", 2, 17);
        isFault(LANES, "shop 0 by shop 1 100;", 2, 17);
        isFault(LANES, "shop 0 by shop 1 1; shop 1 by shop 1 1;", 2, 35);
        isFine(LANES, "shop 0 by shop 1 1; shop 1 by shop 0 1;", 2);
    }

    private static void isFaultIn(ArcadePoles x, int k, String told, int place) {
        due.is("10: text " + k + " <" + told + ">", Due.text(x, k, told), NONE);
        due.is("11: fault of <" + told + ">", x.fault(0) * 1000 + x.fault(1), 2000 + place);
    }

    private static void fNoShopsAtAll() {
        ArcadePoles x = new ArcadePoles();
        isFaultIn(x, ROUNDS, "customer 0 at 0 out;", 9);
        isFaultIn(x, CALENDAR, "on 0 stock 0 0;", 11);
        isFaultIn(x, CALENDAR, "on 0 give 0 1;", 10);
        isFaultIn(x, LANES, "shop 0 by shop 1 1;", 5);
        due.is("10: a law needs none", Due.text(x, LAW, "buys 1;"), 1);
        x.customer(1, 1);
        isFaultIn(x, ROUNDS, "customer 0 at 0 in 0;", 19);
        due.is("10: out needs no shop", Due.text(x, ROUNDS, "customer 0 at 0 out;"), 1);
        x.shop(1, 1);
        isFaultIn(x, LANES, "shop 0 by shop 1 1;", 15);
    }

    private static void fTwelfthAndEighteenth() {
        ArcadePoles x = arcade(12, 18);
        due.is("10: rounds of the last ones", Due.text(x, ROUNDS, "customer 17 at 11 in 11;"), 1);
        due.is("10: a calendar of the last ones", Due.text(x, CALENDAR, "on 1 push 11 17; on 1 give 17 1;"), 2);
        due.is("10: an arcade of the last ones", Due.text(x, LANES, "shop 11 by shop 10 99;"), 1);
        isFaultIn(x, ROUNDS, "customer 18 at 0 out;", 9);
        isFaultIn(x, ROUNDS, "customer 17 at 0 in 12;", 20);
        isFaultIn(x, CALENDAR, "on 0 push 12 0;", 10);
        isFaultIn(x, CALENDAR, "on 0 push 11 18;", 13);
        isFaultIn(x, LANES, "shop 12 by shop 0 1;", 5);
        isFaultIn(x, LANES, "shop 11 by shop 12 1;", 16);
    }

    /** What the only customer is told of the first shop: 9 goods at 30, a purse of 500, polite 3. */
    private static int asked(String law, int what) {
        ArcadePoles x = arcade(1, 1);
        due.yes("13: <" + law + ">", Due.text(x, LAW, law) >= 0);
        return x.who(0, what);
    }

    private static void lHeldToItsBounds() {
        String[] words = {"buys ", "yields ", "costs "};
        for (int i = 0; i < 3; i++) {
            int what = 10 + 20 * i;
            int most = i == 2 ? 999 : 1000;
            due.is("13: below 0, " + words[i], asked(words[i] + "0-1;", what), 0);
            due.is("13: 0, " + words[i], asked(words[i] + "0;", what), 0);
            due.is("13: 1, " + words[i], asked(words[i] + "1;", what), 1);
            due.is("13: 999, " + words[i], asked(words[i] + "999;", what), 999);
            due.is("13: 1000, " + words[i], asked(words[i] + "1000;", what), most);
            due.is("13: 1001, " + words[i], asked(words[i] + "1001;", what), most);
            due.is("13: 99980001, " + words[i], asked(words[i] + "9999*9999;", what), most);
        }
    }

    private static void lWithoutLines() {
        ArcadePoles x = new ArcadePoles();
        x.shop(0, 1);
        x.shop(0, 99);
        x.customer(0, 0);
        x.customer(0, 9);
        due.is("13: buys at hour 0", x.who(0, 10), 600);
        due.is("13: yields, polite 0", x.who(0, 30), 0);
        due.is("13: yields, polite 9", x.who(1, 30), 900);
        due.is("13: costs, price 1", x.who(0, 50), 1);
        due.is("13: costs, price 99", x.who(0, 51), 99);
        x.hours(11);
        due.is("13: buys at hour 11", x.who(0, 10), 160);
        x.hours(1);
        due.is("13: buys at hour 0 again", x.who(0, 10), 600);
        Due.text(x, LAW, "costs 5; costs 6; yields 7 when 1=2;");
        due.is("13: no line of that word", x.who(0, 10), 600);
        due.is("13: none of them is so", x.who(1, 30), 900);
        due.is("13: the first of them", x.who(1, 50), 5);
    }

    private static void lFirstThatIsSo() {
        due.is("13: the second", asked("buys 1 when 1=2; buys 2 when 1=1; buys 3;", 10), 2);
        due.is("13: without when", asked("buys 1; buys 2 when 1=1;", 10), 1);
        due.is("13: the last of sixteen", asked("buys 1 when 1=2;".repeat(15) + "buys 5;", 10), 5);
    }

    private static void lTowardsZero() {
        due.is("13: 7 by 2", asked("buys 7/2;", 10), 3);
        // What is parted is below 0 only behind a wrap: 4160000000 is -134967296.
        due.is("13: below 0 by 7", asked("buys 1 when 6500*8000*80/7=0-9640*2000-1042; buys 2;", 10), 1);
        due.is("13: 1 by 9999", asked("buys 1/9999;", 10), 0);
        due.is("13: by 1", asked("buys 9/1;", 10), 9);
        due.is("13: from the left", asked("buys 7/2*2;", 10), 6);
    }

    private static void lWraps() {
        due.is("13: 46340 squared is above 0", asked("buys 1 when 2317*20*2317*20>0; buys 2;", 10), 1);
        due.is("13: 46341 squared is below 0", asked("buys 1 when 5149*9*5149*9<0; buys 2;", 10), 1);
        due.is("13: the greatest and one", asked("buys 1 when 8192*8192*32-1>0 and 8192*8192*32<0; buys 2;", 10), 1);
        due.is("13: the least less one", asked("buys 1 when 8192*8192*32-1=0-1-8192*8192*32; buys 2;", 10), 1);
        due.is("13: twice around is 0", asked("buys 1 when 8192*8192*64=0; buys 2;", 10), 1);
        due.is("13: held behind the wrap", asked("buys 8192*8192*32;", 10), 0);
        due.is("13: above behind the wrap", asked("costs 8192*8192*32-1;", 50), 999);
    }

    private static void lComparesAtTheEdge() {
        due.is("13: polite is 3", asked("buys 1 when polite<3; buys 2 when polite>3; buys 3 when polite=3;", 10), 3);
        due.is("13: below", asked("buys 1 when polite<4; buys 2;", 10), 1);
        due.is("13: above", asked("buys 1 when polite>2; buys 2;", 10), 1);
        due.is("13: not below", asked("buys 1 when not polite<3; buys 2;", 10), 1);
    }

    private static void lDeepest() {
        String sides = "1=2 or 1=1 and ";
        String inner = "1+2*3-4*5<6+7*8-9*10+100";
        StringBuilder told = new StringBuilder("buys 1 when ");
        for (int i = 0; i < 8; i++) {
            told.append(sides).append('(');
        }
        told.append(sides).append(inner);
        String open = told.toString();
        due.is("13: eight deep, so", asked(open + "))))))));buys 2;", 10), 1);
        due.is("13: eight deep, not so", asked(open + "*0-100))))))));buys 2;", 10), 2);
        due.is("13: eight nots", asked("buys 1 when not not not not not not not not 1=1; buys 2;", 10), 1);
        due.is("13: seven nots", asked("buys 1 when not not not not not not not 1=1; buys 2;", 10), 2);
    }

    /** All ways in which three that are so or not can be joined. */
    private static void lOrsAndAndsOnEnd() {
        for (int so = 0; so < 8; so++) {
            boolean a = (so & 1) > 0;
            boolean b = (so & 2) > 0;
            boolean c = (so & 4) > 0;
            String[] is = {a ? "1=1" : "1=2", b ? "1=1" : "1=2", c ? "1=1" : "1=2"};
            due.is("13: or or", joined(is, " or ", " or "), bit(a || b || c));
            due.is("13: or and", joined(is, " or ", " and "), bit(a || b && c));
            due.is("13: and or", joined(is, " and ", " or "), bit(a && b || c));
            due.is("13: and and", joined(is, " and ", " and "), bit(a && b && c));
        }
    }

    private static int joined(String[] is, String first, String second) {
        return asked("buys 1 when " + is[0] + first + is[1] + second + is[2] + "; buys 0;", 10);
    }

    private static void lEmptyShop() {
        ArcadePoles x = arcade(1, 1);
        x.act(3, 0, 0);
        Due.text(x, LAW, "buys goods + 5; yields crowd + 6; costs till + 7;");
        due.is("13: buys without goods", x.who(0, 10), 5);
        due.is("13: yields, nobody in it", x.who(0, 30), 6);
        due.is("13: costs, nothing sold", x.who(0, 50), 7);
        x.act(0, 0, 0);
        due.is("13: he is in it", x.who(0, 30), 7);
    }

    /** Each word of another number: shut on day 0 by customer 1, open on days 1 to 3. */
    private static void lEachWord() {
        ArcadePoles x = new ArcadePoles();
        x.shop(60, 31);
        x.shop(60, 31);
        x.customer(800, 8);
        x.customer(800, 8);
        x.customer(800, 8);
        Due.text(x, LAW, "buys 0; yields 0;");
        Due.text(x, CALENDAR, "on 0 push 1 1; on 1 push 1 1; on 5 push 1 1;");
        x.hours(53);
        x.act(0, 1, 1);
        x.act(2, 1, 0);
        x.act(2, 1, 0);
        x.act(2, 1, 0);
        x.act(2, 1, 0);
        for (int c = 0; c < 3; c++) {
            x.act(0, c, 1);
        }
        String[] words = {"purse", "polite", "goods", "price", "till", "nights", "poles", "crowd", "hour", "bought",
            "day"};
        int[] want = {676, 8, 54, 31, 124, 2, 2, 3, 5, 6, 4};
        for (int i = 0; i < words.length; i++) {
            x.text(LAW);
            Due.text(x, LAW, "yields " + words[i] + ";");
            due.is("13: " + words[i], x.who(1, 31), want[i]);
        }
    }
}
