/** Each of the promises 1 to 41 by itself: ordinary inputs, the edges that the document names, wrong inputs. */
public final class PromisesTest {
    private static final int NONE = ArcadePoles.NONE;
    private static final Due due = new Due("PromisesTest");

    public static void main(String[] args) {
        newObject();
        state();
        shop();
        customer();
        set();
        act();
        hours();
        evenings();
        feedAndEnd();
        text();
        fault();
        of();
        who();
        book();
        goes();
        cheaply();
        tramp();
        coins();
        after();
        ring();
        served();
        lamps();
        threads();
        earned();
        written();
        year();
        sums();
        waltz();
        knows();
        lifted();
        game();
        undo();
        image();
        look();
        due.close();
    }

    private static void newObject() {
        ArcadePoles x = new ArcadePoles();
        for (int what = 0; what <= 12; what++) {
            due.is("1: look(" + what + ")", x.look(what), what == 4 ? NONE : 0);
        }
        due.is("1: NONE", ArcadePoles.NONE, -1);
        due.is("1: fault(0)", x.fault(0), 0);
        due.is("1: fault(1)", x.fault(1), NONE);
        due.no("1: undo", x.undo());
        due.no("1: image(false)", x.image(false));
        due.is("1: two objects share nothing", new ArcadePoles().shop(1, 1) + new ArcadePoles().shop(1, 1), 0);
    }

    private static void state() {
        ArcadePoles x = new ArcadePoles();
        due.is("2: first", x.state(7), 0);
        due.is("2: second", x.state(Integer.MIN_VALUE), 7);
        due.is("2: third", x.state(0), Integer.MIN_VALUE);
        x.hours(1);
        due.is("2: can be undone", x.look(12), 1);
        x.state(0);
        due.is("2: forgets", x.look(12), 0);
    }

    private static void shop() {
        ArcadePoles x = new ArcadePoles();
        due.is("3: goods -1", x.shop(-1, 5), NONE);
        due.is("3: goods 100", x.shop(100, 5), NONE);
        due.is("3: price 0", x.shop(5, 0), NONE);
        due.is("3: price 100", x.shop(5, 100), NONE);
        for (int s = 0; s < 12; s++) {
            due.is("3: shop " + s, x.shop(s == 0 ? 0 : 99, s == 0 ? 1 : 99), s);
        }
        due.is("3: the thirteenth", x.shop(1, 1), NONE);
        due.is("3: goods", x.of(11, 0), 99);
        due.is("3: price", x.of(11, 1), 99);
        due.is("3: till", x.of(11, 2), 0);
        due.is("3: open", x.of(11, 3), 1);
        due.is("3: last", x.of(11, 4), NONE);
        due.is("3: before", x.of(11, 5), NONE);
        due.is("3: nights", x.of(11, 6), 0);
        due.is("3: how many", x.look(0), 12);
    }

    private static void customer() {
        ArcadePoles x = new ArcadePoles();
        due.is("4: purse -1", x.customer(-1, 0), NONE);
        due.is("4: purse 10000", x.customer(10000, 0), NONE);
        due.is("4: polite -1", x.customer(0, -1), NONE);
        due.is("4: polite 10", x.customer(0, 10), NONE);
        for (int c = 0; c < 18; c++) {
            due.is("4: customer " + c, x.customer(c == 0 ? 0 : 9999, c == 0 ? 0 : 9), c);
        }
        due.is("4: the nineteenth", x.customer(1, 1), NONE);
        due.is("4: purse", x.who(17, 0), 9999);
        due.is("4: polite", x.who(17, 1), 9);
        due.is("4: in", x.who(17, 2), NONE);
        due.is("4: poles", x.who(17, 3), 0);
        due.is("4: bought", x.who(17, 4), 0);
    }

    private static void set() {
        ArcadePoles x = new ArcadePoles();
        x.shop(1, 1);
        x.customer(1, 1);
        due.yes("5: price 99", x.set(0, 0, 99));
        due.is("5: price", x.of(0, 1), 99);
        due.no("5: price 0", x.set(0, 0, 0));
        due.no("5: price 100", x.set(0, 0, 100));
        due.no("5: shop 1", x.set(0, 1, 5));
        due.no("5: shop -1", x.set(0, -1, 5));
        due.yes("5: purse 9999", x.set(1, 0, 9999));
        due.yes("5: purse 0", x.set(1, 0, 0));
        due.no("5: purse -1", x.set(1, 0, -1));
        due.no("5: purse 10000", x.set(1, 0, 10000));
        due.no("5: customer 1", x.set(1, 1, 5));
        due.yes("5: polite 9", x.set(2, 0, 9));
        due.no("5: polite 10", x.set(2, 0, 10));
        due.no("5: polite -1", x.set(2, 0, -1));
        due.no("5: customer 1", x.set(2, 1, 5));
        due.no("5: what 3", x.set(3, 0, 5));
        due.no("5: what -1", x.set(-1, 0, 5));
        due.is("5: purse", x.who(0, 0), 0);
        due.is("5: polite", x.who(0, 1), 9);
        x.hours(1);
        x.set(0, 0, 100);
        due.is("5: refused, forgets nothing", x.look(12), 1);
        x.set(0, 0, 99);
        due.is("5: forgets", x.look(12), 0);
    }

    private static void act() {
        ArcadePoles x = new ArcadePoles();
        x.shop(2, 10);
        x.shop(1, 50);
        x.customer(25, 0);
        x.customer(10, 0);
        due.no("6: out of none", x.act(1, 0, 0));
        due.no("6: to buy in none", x.act(2, 0, 0));
        due.no("6: in shop 2", x.act(0, 0, 2));
        due.no("6: in shop -1", x.act(0, 0, -1));
        due.no("6: customer 2 in", x.act(0, 2, 0));
        due.no("6: customer -1 in", x.act(0, -1, 0));
        due.yes("6: in", x.act(0, 0, 0));
        due.no("6: in again", x.act(0, 0, 0));
        due.yes("6: in the other", x.act(0, 0, 1));
        due.no("6: too dear", x.act(2, 0, 0));
        due.yes("6: back", x.act(0, 0, 0));
        due.yes("6: buys", x.act(2, 0, -77));
        due.is("6: no draw", x.look(7), 0);
        due.is("6: till", x.of(0, 2), 10);
        due.is("6: bought", x.who(0, 4), 1);
        x.act(0, 1, 0);
        due.yes("6: has just so much", x.act(2, 1, 0));
        due.is("6: last", x.of(0, 4), 1);
        due.is("6: before", x.of(0, 5), 0);
        due.no("6: no goods", x.act(2, 0, 0));
        due.yes("6: stock", x.act(3, 0, 99));
        due.yes("6: stock 0", x.act(3, 1, 0));
        due.no("6: stock 100", x.act(3, 1, 100));
        due.no("6: stock -1", x.act(3, 1, -1));
        due.no("6: stock shop 2", x.act(3, 2, 1));
        due.yes("6: buys again", x.act(2, 0, 0));
        due.is("6: last again", x.of(0, 4), 0);
        due.is("6: before again", x.of(0, 5), 1);
        x.set(1, 0, 100);
        x.act(2, 0, 0);
        due.is("6: last twice on end", x.of(0, 4), 0);
        due.is("6: before stays", x.of(0, 5), 1);
        due.yes("6: out", x.act(1, 0, 0));
        due.no("6: out again", x.act(1, 0, 0));
        due.no("6: customer 2 out", x.act(1, 2, 0));
        due.no("6: customer 2 buys", x.act(2, 2, 0));
        due.no("6: what 4", x.act(4, 0, 0));
        due.no("6: what -1", x.act(-1, 0, 0));
        due.is("6: four lines only", x.look(6), 4);
    }

    private static void hours() {
        ArcadePoles x = new ArcadePoles();
        due.is("7: 0", x.hours(0), NONE);
        due.is("7: -1", x.hours(-1), NONE);
        due.is("7: 61", x.hours(61), NONE);
        due.is("7: nothing done", x.look(2), 0);
        x.shop(3, 10);
        x.customer(25, 0);
        x.customer(5, 0);
        Due.text(x, 0, "buys 1000;");
        Due.text(x, 1, "customer 0 at 1 in 0; customer 1 at 1 in 0; customer 0 at 3 out;");
        due.is("7: an hour without anybody", x.hours(1), 0);
        due.is("7: no draw of it", x.look(7), 0);
        due.is("7: one buys, one has too little", x.hours(1), 1);
        due.is("7: one draw", x.look(7), 1013904223);
        due.is("7: rest of a day", x.hours(10), 1);
        due.is("7: day", x.look(3), 1);
        due.is("7: hour", x.look(2), 0);
        due.is("7: purse", x.who(0, 0), 5);
        due.is("7: till", x.of(0, 2), 20);
        due.is("7: 60", x.hours(60), 0);
        due.is("7: day 6", x.look(3), 6);
        Due.text(x, 0, "buys 0;");
        x.set(1, 0, 9999);
        x.state(5);
        x.hours(60);
        due.is("7: buys 0, no draw; yields 0, no draw", x.look(7), 5);
        Due.text(x, 2, "on 11 push 0 0; on 11 stock 0 2; on 11 push 0 1; on 11 price 0 7; on 11 give 1 999;");
        due.is("7: pushed is not bought", x.hours(1), 0);
        due.is("7: goods behind the second push", x.of(0, 0), 1);
        due.is("7: last by being pushed at", x.of(0, 4), 1);
        due.is("7: before by being pushed at", x.of(0, 5), 0);
        due.is("7: price by calendar", x.of(0, 1), 7);
        due.is("7: given", x.who(1, 0), 1004);
        due.is("7: bought counts the pushed one", x.who(1, 4), 1);
        x.set(1, 1, 9500);
        Due.text(x, 2, "on 12 give 1 999; on 12 stock 0 0; on 12 push 0 0;");
        x.hours(12);
        due.is("7: given up to 9999", x.who(1, 0), 9999);
        due.is("7: no goods, none pushed", x.of(0, 4), NONE);
    }

    private static void evenings() {
        ArcadePoles x = new ArcadePoles();
        x.shop(50, 1);
        x.shop(50, 1);
        x.shop(50, 1);
        x.customer(100, 0);
        x.customer(100, 9);
        Due.text(x, 0, "buys 0; yields 1000 when polite > 0;");
        x.hours(1);
        x.act(0, 0, 0);
        x.act(2, 0, 0);
        x.act(0, 1, 0);
        x.act(2, 1, 0);
        x.act(0, 1, 1);
        x.act(2, 1, 0);
        x.hours(11);
        due.is("7: shut by who was ahead", x.of(0, 3), 0);
        due.is("7: nobody ahead: stays open", x.of(1, 3), 1);
        due.is("7: nobody bought: stays open", x.of(2, 3), 1);
        due.is("7: poles of who was ahead", x.who(0, 3), 1);
        due.is("7: poles of who was last", x.who(1, 3), 0);
        due.is("7: nights", x.of(0, 6) * 100 + x.of(1, 6) * 10 + x.of(2, 6), 11);
        due.is("7: all are out", x.who(1, 2), NONE);
        due.is("7: last stays till the morning", x.of(0, 4), 1);
        int[][] lines = {{0, 1, 0, 0, 1}, {0, 1, 0, 1, 1}, {0, 1, 0, 1, 1},
            {0, 11, 2, 1, 0}, {0, 11, 3, 0, 0}, {0, 11, 2, 1, 1}, {0, 11, 4, 1, 1}, {0, 11, 4, 2, 1}};
        due.is("7: lines", x.look(6), lines.length);
        for (int i = 0; i < lines.length; i++) {
            for (int what = 0; what < 5; what++) {
                due.is("7: book(" + i + ", " + what + ")", x.book(i, what), lines[i][what]);
            }
        }
        due.no("7: shut till the morning", x.act(0, 0, 0));
        x.hours(1);
        due.is("7: open in the morning", x.of(0, 3), 1);
        due.is("7: last none in the morning", x.of(0, 4), NONE);
        due.is("7: before none in the morning", x.of(0, 5), NONE);
    }

    private static void feedAndEnd() {
        ArcadePoles x = new ArcadePoles();
        for (int i = 1; i <= 20; i++) {
            due.is("8: feed " + i, x.feed(0, 0, 0, 0, 0), 20 * i);
        }
        due.is("8: full", x.feed(0, 0, 0, 0, 0), NONE);
        due.no("9: 401", x.end(401));
        due.no("9: -1", x.end(-1));
        due.yes("9: 400", x.end(400));
        due.yes("9: 381", x.end(381));
        due.is("8: 401 would be too many", x.feed(0, 0, 0, 0, 0), NONE);
        due.yes("9: 380", x.end(380));
        due.is("8: 400", x.feed(0, 0, 0, 0, 0), 400);
        due.yes("9: 0", x.end(0));
        due.no("9: 1 of 0", x.end(1));
        due.is("8: the highest byte first", x.feed(0x62757973, 0x20310a3b, 0, 0, 0), 20);
        x.end(8);
        due.is("8: what was fed is read", x.text(0), 1);
        due.is("8: empty behind text()", x.feed(0, 0, 0, 0, 0), 20);
        due.is("10: no such text", x.text(4), NONE);
        due.no("10: empty behind that too", x.end(1));
    }

    private static void text() {
        ArcadePoles x = new ArcadePoles();
        x.shop(5, 5);
        x.shop(5, 5);
        x.customer(50, 5);
        due.is("10: empty", x.text(0), 0);
        due.is("10: law", Due.text(x, 0, "buys 1;yields 2 when hour<3;costs 3\nwhen not(day=0);"), 3);
        due.is("10: rounds", Due.text(x, 1, "customer 0 at 11 in 1;customer0at0out;"), 2);
        due.is("10: calendar",
            Due.text(x, 2, "on 0 stock 0 0; on 999 price 1 99; on 1 give 0 999; on 0001 push 1 0;"), 4);
        due.is("10: the least of all numbers", Due.text(x, 2, "on 0 give 0 1; on 0 price 0 1; on 0 stock 0 0;"), 3);
        due.is("10: the first again",
            Due.text(x, 2, "on 0 stock 0 0; on 999 price 1 99; on 1 give 0 999; on 0001 push 1 0;"), 4);
        due.is("10: arcade", Due.text(x, 3, "shop 0 by shop 1 99;"), 1);
        due.is("10: lines", x.look(8) * 1000 + x.look(9) * 100 + x.look(10) * 10 + x.look(11), 3241);
        due.is("10: a fault", Due.text(x, 3, "shop 0 by shop 1 9"), NONE);
        due.is("10: stays as it was", x.of(0, 11), 99);
        due.is("10: the tape is empty", x.end(1) ? 1 : 0, 0);
        due.is("10: fault told", x.fault(0), 1);
        due.is("10: no such one", Due.text(x, -1, "buys 1;"), NONE);
        due.is("10: fault told 0", x.fault(0), 0);
        due.is("10: its place", x.fault(1), NONE);
        due.is("10: empty tape, empty text", x.text(0), 0);
        due.is("10: no line of the law", x.look(8), 0);
        due.is("10: blanks alone", Due.text(x, 2, " \n "), 0);
        x.hours(1);
        Due.text(x, 0, "buys 1;");
        Due.text(x, 3, "");
        Due.text(x, 1, "x");
        due.is("10: law, arcade and faults forget nothing", x.look(12), 1);
        Due.text(x, 1, "");
        due.is("10: rounds forget", x.look(12), 0);
        x.hours(1);
        Due.text(x, 2, "");
        due.is("10: calendar forgets", x.look(12), 0);
    }

    private static void isFault(int k, String told, int which, int place) {
        ArcadePoles x = new ArcadePoles();
        for (int i = 0; i < 2; i++) {
            x.shop(5, 5);
            x.customer(5, 5);
        }
        due.is("11: text " + k + " <" + told + ">", Due.text(x, k, told), NONE);
        due.is("11: fault of " + k + " <" + told + ">", x.fault(0), which);
        due.is("11: place of " + k + " <" + told + ">", x.fault(1), place);
        due.is("11: what 2", x.fault(2), NONE);
        due.is("11: what -1", x.fault(-1), NONE);
    }

    private static void fault() {
        isFault(0, "buys", 1, 4);
        isFault(0, "buys;", 1, 4);
        isFault(0, "buys 1 when ;", 1, 12);
        isFault(0, "buys 1  ", 1, 8);
        isFault(0, "Buys 1;", 1, 0);
        isFault(0, " buyss 1;", 1, 1);
        isFault(0, "buys 1;\t", 1, 7);
        isFault(0, "buys 00001;", 1, 5);
        isFault(0, "buys 1/0;", 2, 7);
        isFault(0, "buys 1/0000+;", 2, 7);
        isFault(0, "buys 1/hour;", 1, 7);
        isFault(0, "buys -1;", 1, 5);
        isFault(0, "buys (1);", 1, 5);
        isFault(0, "buys 1 when 1;", 1, 13);
        isFault(0, "buys 1 when (1<2;", 1, 16);
        isFault(0, "buys 1 when (1+2)<3;", 1, 16);
        isFault(0, "buys 1 when 1<2<3;", 1, 15);
        isFault(0, "buys 1 when 1<2 or;", 1, 18);
        isFault(0, "buys customer;", 1, 5);
        isFault(0, "buys 1;;", 1, 7);
        isFault(0, "buys 1 when ((((((((1=1)))))))) and (((((((((1=1", 3, 44);
        isFault(0, "buys 1 when not(not(not(not(not", 3, 28);
        isFault(0, "buys 1;".repeat(16) + "costs", 3, 112);
        isFault(0, "buys 1;".repeat(16) + "cost", 1, 112);
        isFault(1, "customer 2 at 0 out;", 2, 9);
        isFault(1, "customer 1 at 12 out;", 2, 14);
        isFault(1, "customer 1 at 1 in 2;", 2, 19);
        isFault(1, "customer 1 at 1;", 1, 15);
        isFault(1, "customer 1 at 1 out 1;", 1, 20);
        isFault(1, "customer one", 1, 9);
        isFault(1, "customer 0 at 0 out;".repeat(16) + " customer", 3, 321);
        isFault(2, "on 1000 push 0 0;", 2, 3);
        isFault(2, "on 0 push 2 0;", 2, 10);
        isFault(2, "on 0 push 1 2;", 2, 12);
        isFault(2, "on 0 stock 2 0;", 2, 11);
        isFault(2, "on 0 stock 0 100;", 2, 13);
        isFault(2, "on 0 price 0 0;", 2, 13);
        isFault(2, "on 0 price 0 100;", 2, 13);
        isFault(2, "on 0 give 2 1;", 2, 10);
        isFault(2, "on 0 give 1 0;", 2, 12);
        isFault(2, "on 0 give 1 1000;", 2, 12);
        isFault(2, "on 0 goods 1 1;", 1, 5);
        isFault(2, "on 0 push 0 0;".repeat(16) + "on", 3, 224);
        isFault(3, "shop 2 by shop 0 1;", 2, 5);
        isFault(3, "shop 0 by shop 2 1;", 2, 15);
        isFault(3, "shop 1 by shop 1 1;", 2, 15);
        isFault(3, "shop 0 by shop 1 0;", 2, 17);
        isFault(3, "shop 0 by shop 1 100;", 2, 17);
        isFault(3, "shop 0 by 1 1;", 1, 10);
        isFault(3, "shop 0 by shop 1 1;".repeat(16) + "shop", 3, 304);
        isFault(3, "shop 0 by shop 1 1" + (char) 200, 1, 18);
        ArcadePoles x = new ArcadePoles();
        due.is("11: eight open", Due.text(x, 0, "buys 1 when not not not not ((((1=1))));"), 1);
        due.is("11: sixteen lines", Due.text(x, 0, "buys 1;".repeat(16)), 16);
    }

    private static void of() {
        ArcadePoles x = new ArcadePoles();
        x.shop(7, 8);
        x.shop(9, 10);
        x.shop(9, 10);
        for (int c = 0; c < 18; c++) {
            x.customer(20, 0);
        }
        Due.text(x, 3, "shop 0 by shop 1 9; shop 1 by shop 0 4; shop 0 by shop 1 6;");
        x.act(0, 17, 0);
        x.act(0, 2, 0);
        x.act(2, 2, 0);
        x.act(2, 17, 0);
        int[] want = {5, 8, 16, 1, 17, 2, 0, 1 << 17 | 1 << 2, -2, -2, NONE, 4, NONE, -2};
        for (int what = 0; what < want.length; what++) {
            due.is("12: of(0, " + what + ")", x.of(0, what), want[what]);
        }
        due.is("12: the other way", x.of(1, 10), 4);
        due.is("12: what -1", x.of(0, -1), -2);
        due.is("12: shop 3", x.of(3, 0), -2);
        due.is("12: shop -1", x.of(-1, 0), -2);
        due.is("12: what MIN", x.of(0, Integer.MIN_VALUE), -2);
    }

    private static int told(String law, int what) {
        ArcadePoles x = new ArcadePoles();
        x.shop(9, 30);
        x.shop(0, 7);
        x.customer(500, 3);
        x.customer(9999, 4);
        due.yes("13: <" + law + ">", Due.text(x, 0, law) >= 0);
        x.hours(2);
        x.act(0, 0, 0);
        x.act(0, 1, 0);
        x.act(2, 0, 0);
        return x.who(0, what);
    }

    private static void who() {
        due.is("13: purse", told("", 0), 470);
        due.is("13: polite", told("", 1), 3);
        due.is("13: in", told("", 2), 0);
        due.is("13: poles", told("", 3), 0);
        due.is("13: bought", told("", 4), 1);
        due.is("13: what 5", told("", 5), -2);
        due.is("13: buys of itself", told("", 10), 520);
        due.is("13: yields of itself", told("", 31), 300);
        due.is("13: costs of itself, without goods", told("", 51), 7);
        due.is("13: shop 2", told("", 12), -2);
        due.is("13: shop 2 yields", told("", 32), -2);
        due.is("13: shop 2 costs", told("", 52), -2);
        due.is("13: what -1", told("", -1), -2);
        due.is("13: held up", told("buys 0-5;", 10), 0);
        due.is("13: held down", told("buys 9999;", 10), 1000);
        due.is("13: yields held down", told("yields 1001;", 30), 1000);
        due.is("13: costs held down", told("costs 1000 when hour = 2;", 50), 999);
        due.is("13: costs 999", told("costs 999 when hour = 2 and bought = 1;", 51), 999);
        due.is("13: all words of a shop", told("yields goods + price + till + nights;", 30), 68);
        due.is("13: of another shop", told("yields goods + price + till + nights;", 31), 7);
        due.is("13: all words of a customer", told("yields purse + polite + poles + bought;", 30), 474);
        due.is("13: crowd", told("yields crowd * 100 + hour * 10 + day;", 30), 220);
        due.is("13: crowd of none", told("yields crowd * 100 + hour * 10 + day;", 31), 20);
        due.is("13: first that is so", told("buys 1 when hour > 2; costs 5; buys 2 when hour = 2; buys 3;", 10), 2);
        due.is("13: none is so", told("buys 1 when hour > 2;", 10), 520);
        due.is("13: product ahead of sum", told("yields 2 + 3 * 4 - 10 / 3;", 30), 11);
        due.is("13: from the left", told("yields 100 - 10 - 5;", 30), 85);
        due.is("13: parts from the left", told("yields 7 / 2 * 2;", 30), 6);
        due.is("13: towards 0", told("yields 10 + hour * 0 - 7 / 2 ;", 30), 7);
        due.is("13: towards 0 below 0", told("yields 1 when 0 - 7 = 0 - 7; yields 2;", 30), 1);
        due.is("13: wraps", told("yields 1 when 9999 * 9999 * 9999 < 0 or 9999 * 9999 * 30 < 0; yields 2;", 30), 1);
        due.is("13: and ahead of or", told("yields 1 when 1=1 or 1=1 and 1=2; yields 2;", 30), 1);
        due.is("13: ( ahead of and", told("yields 1 when (1=1 or 1=1) and 1=2; yields 2;", 30), 2);
        due.is("13: not ahead of and", told("yields 1 when not 1=2 and 1=2; yields 2;", 30), 2);
        due.is("13: not not", told("yields 1 when not not 1<2; yields 2;", 30), 1);
        due.is("13: and behind or", told("yields 1 when 1=2 and 1=2 or 3>2; yields 2;", 30), 1);
        ArcadePoles x = new ArcadePoles();
        due.is("13: no customer", x.who(0, 0), -2);
        x.customer(1, 1);
        due.is("13: no shop", x.who(0, 10), -2);
        due.is("13: customer -1", x.who(-1, 0), -2);
    }

    private static void book() {
        ArcadePoles x = new ArcadePoles();
        x.shop(1, 1);
        due.is("14: none", x.book(0, 0), NONE);
        x.hours(12);
        due.is("14: day", x.book(0, 0), 0);
        due.is("14: hour", x.book(0, 1), 11);
        due.is("14: what", x.book(0, 2), 4);
        due.is("14: who", x.book(0, 3), 0);
        due.is("14: how much", x.book(0, 4), 1);
        due.is("14: what 5", x.book(0, 5), NONE);
        due.is("14: what -1", x.book(0, -1), NONE);
        due.is("14: line 1", x.book(1, 0), NONE);
        due.is("14: line -1", x.book(-1, 0), NONE);
        for (int i = 0; i < 31; i++) {
            x.hours(60);
        }
        due.is("14: no more than 150", x.look(6), 150);
        due.is("14: the last of them", x.book(149, 4), 150);
        due.is("14: nights go on", x.of(0, 6), 156);
        due.is("14: line 150", x.book(150, 0), NONE);
    }

    private static void goes() {
        ArcadePoles x = new ArcadePoles();
        x.shop(5, 10);
        x.shop(9, 10);
        x.customer(35, 5);
        x.customer(100, 4);
        Due.text(x, 1, "customer 0 at 0 in 0; customer 1 at 0 in 0; customer 0 at 2 out; customer 1 at 3 in 1;");
        // buys is 600, 560, 520, then 480: both buy twice, then one takes the last thing; shop 1 is come to too late.
        due.is("15: tills behind 1", x.goes(1, 0), 20);
        due.is("15: tills behind 2", x.goes(2, 0), 40);
        due.is("15: tills behind 3", x.goes(3, 0), 50);
        due.is("15: goods behind 12", x.goes(12, 1), 9);
        due.is("15: poles behind 12", x.goes(12, 2), 1);
        due.is("15: not open behind 12", x.goes(12, 3), 1);
        due.is("15: not open behind 13", x.goes(13, 3), 0);
        due.is("15: poles behind 60", x.goes(60, 2), 1);
        due.is("15: 0", x.goes(0, 0), NONE);
        due.is("15: 61", x.goes(61, 0), NONE);
        due.is("15: what 4", x.goes(1, 4), NONE);
        due.is("15: what -1", x.goes(1, -1), NONE);
        due.is("15: nothing stays", x.look(2) + x.look(3) + x.look(6) + x.look(7) + x.look(12) + x.of(0, 2), 0);
        Due.text(x, 0, "buys 500; yields 500;");
        due.is("15: 500 is enough", x.goes(1, 0), 20);
        due.is("15: yields at 500", x.goes(12, 3), 1);
        Due.text(x, 0, "buys 499;");
        due.is("15: 499 is not", x.goes(1, 0), 0);
    }

    private static void cheaply() {
        ArcadePoles x = new ArcadePoles();
        due.is("16: no shops", x.cheaply(0), 0);
        for (int s = 0; s < 3; s++) {
            x.shop(1, 10);
        }
        due.is("16: nobody", x.cheaply(0), NONE);
        due.is("16: nobody for 0", x.cheaply(10), NONE);
        x.customer(9, 0);
        for (int c = 0; c < 3; c++) {
            x.customer(10 + c, c);
        }
        due.is("16: least", x.cheaply(0), 30);
        for (int s = 0; s < 3; s++) {
            due.is("16: least customers, shop " + s, x.cheaply(10 + s), s + 1);
        }
        Due.text(x, 0, "costs 5 when polite = 2 and price = 11; costs 6 when polite = 2; costs 9 when polite = 0;");
        x.set(0, 2, 11);
        due.is("16: told by the law", x.cheaply(0), 9 + 9 + 5);
        due.is("16: shop 0", x.cheaply(10), 0);
        due.is("16: shop 1", x.cheaply(11), 1);
        due.is("16: shop 2", x.cheaply(12), 3);
        x.act(3, 1, 0);
        due.is("16: without goods not asked for", x.cheaply(0), 14);
        due.is("16: shop 1 not asked for", x.cheaply(11), NONE);
        due.is("16: shop 3", x.cheaply(13), NONE);
        due.is("16: what 1", x.cheaply(1), NONE);
        due.is("16: what -1", x.cheaply(-1), NONE);
        due.is("16: what 18", x.cheaply(18), NONE);
        ArcadePoles y = new ArcadePoles();
        for (int s = 0; s < 9; s++) {
            y.shop(s == 8 ? 1 : 0, 10);
        }
        due.is("16: shop 8 is not asked for", y.cheaply(0), 0);
        due.is("16: whom shop 8", y.cheaply(18), NONE);
    }

    private static void tramp() {
        ArcadePoles x = new ArcadePoles();
        due.is("17: no shops", x.tramp(0, 0), NONE);
        x.shop(1, 1);
        due.is("17: alone", x.tramp(0, 0), 0);
        due.is("17: alone, last", x.tramp(0, 1), 0);
        x.shop(1, 1);
        x.shop(1, 1);
        x.shop(1, 1);
        due.is("17: apart", x.tramp(0, 0), NONE);
        due.is("17: apart, last", x.tramp(0, 1), NONE);
        Due.text(x, 3, "shop 0 by shop 1 2; shop 0 by shop 2 2; shop 0 by shop 3 3; shop 0 by shop 3 9;");
        due.is("17: a star", x.tramp(0, 0), 2 + 2 + 2 + 2 + 3);
        due.is("17: the farthest is last", x.tramp(0, 1), 3);
        due.is("17: from a tip", x.tramp(3, 0), 3 + 2 + 2 + 2);
        due.is("17: of several the least", x.tramp(3, 1), 1);
        due.is("17: shop 4", x.tramp(4, 0), NONE);
        due.is("17: shop -1", x.tramp(-1, 0), NONE);
        due.is("17: what 2", x.tramp(0, 2), NONE);
        due.is("17: what -1", x.tramp(0, -1), NONE);
    }

    private static void coins() {
        ArcadePoles x = new ArcadePoles();
        due.is("18: 0", x.coin(0), NONE);
        due.is("18: 51", x.coin(51), NONE);
        due.is("18: -2", x.coin(-2), NONE);
        due.is("19: none told", x.pays(1, 0), NONE);
        due.is("19: none told, ways", x.pays(1, 1), 0);
        due.is("19: nothing", x.pays(0, 0), 0);
        due.is("19: nothing, ways", x.pays(0, 1), 1);
        due.is("18: 50", x.coin(50), 1);
        due.is("18: again", x.coin(50), 1);
        due.is("19: can't be", x.pays(49, 0), NONE);
        due.is("19: four", x.pays(200, 0), 4);
        due.is("18: 49", x.coin(49), 2);
        due.is("19: one is given back", x.pays(1, 0), 2);
        due.is("19: all but one given back", x.pays(25, 0), 49);
        due.is("19: ways", x.pays(99, 1), 1);
        due.is("18: none is then", x.coin(NONE), 0);
        for (int v = 1; v <= 6; v++) {
            due.is("18: " + v, x.coin(v), v);
        }
        due.is("18: the seventh", x.coin(7), NONE);
        due.is("19: ways of 6", x.pays(6, 1), 11);
        due.is("19: ways of 200", x.pays(200, 1), 4775383);
        due.is("19: fewest for 200", x.pays(200, 0), 34);
        due.is("19: p 201", x.pays(201, 0), NONE);
        due.is("19: p -1", x.pays(-1, 1), NONE);
        due.is("19: what 2", x.pays(1, 2), NONE);
        due.is("19: what -1", x.pays(1, -1), NONE);
    }

    private static void isAfter(int[] stakes, int above, int below, int often, int by) {
        ArcadePoles x = new ArcadePoles();
        due.yes("20: told", x.told(stakes[0], stakes[1], stakes[2], stakes[3]));
        int[] want = {above, below, often, by};
        for (int what = 0; what < 4; what++) {
            due.is("21: after(" + what + ") of " + java.util.Arrays.toString(stakes), x.after(what), want[what]);
        }
    }

    private static void after() {
        isAfter(new int[] {0, 0, 0, 0}, 0, 1, 1, 1);
        isAfter(new int[] {3, 1, 2, 4}, 5, 2, 1, 2);
        isAfter(new int[] {1, 3, 4, 2}, 5, 2, 1, 2);
        isAfter(new int[] {-99, 99, 99, -99}, 0, 1, 1, 2);
        isAfter(new int[] {-3, 1, 2, -4}, -1, 1, 3, 5);
        isAfter(new int[] {1, 0, 5, 3}, 3, 1, 0, 1);
        isAfter(new int[] {2, 2, 2, 2}, 2, 1, 1, 1);
        isAfter(new int[] {-5, -7, -8, -9}, -7, 1, 1, 1);
        ArcadePoles x = new ArcadePoles();
        due.is("21: 0 at first", x.after(0) * 1000 + x.after(1) * 100 + x.after(2) * 10 + x.after(3), 111);
        x.told(9, 9, 9, 9);
        due.no("20: 100", x.told(1, 1, 1, 100));
        due.no("20: -100", x.told(-100, 1, 1, 1));
        due.no("20: b", x.told(1, 100, 1, 1));
        due.no("20: c", x.told(1, 1, -100, 1));
        due.is("20: stays", x.after(0), 9);
        due.is("21: what 4", x.after(4), -10000);
        due.is("21: what -1", x.after(-1), -10000);
    }

    private static void ring() {
        ArcadePoles x = new ArcadePoles();
        int[] order = {1, 3, 0, 4, 2};
        for (int i = 0; i < 5; i++) {
            due.is("22: ring(5, 2, " + i + ")", x.ring(5, 2, i), order[i]);
            due.is("22: ring(5, 1, " + i + ")", x.ring(5, 1, i), i);
        }
        due.is("22: k above n", x.ring(3, 100, 0), 0);
        due.is("22: 100 by 100", x.ring(100, 100, 0), 99);
        due.is("22: 41 by 3", x.ring(41, 3, 40), 30);
        due.is("22: n 0", x.ring(0, 1, 0), NONE);
        due.is("22: n 101", x.ring(101, 1, 0), NONE);
        due.is("22: k 0", x.ring(5, 0, 0), NONE);
        due.is("22: k 101", x.ring(5, 101, 0), NONE);
        due.is("22: i -1", x.ring(5, 1, -1), NONE);
        due.is("22: i 5", x.ring(5, 1, 5), NONE);
    }

    private static void served() {
        ArcadePoles x = new ArcadePoles();
        due.is("24: none", x.served(0), 0);
        due.is("24: none late", x.served(1), 0);
        due.is("23: needs 0", x.errand(0, 5), NONE);
        due.is("23: needs 21", x.errand(21, 5), NONE);
        due.is("23: due -1", x.errand(1, -1), NONE);
        due.is("23: due 100", x.errand(1, 100), NONE);
        due.is("23: first", x.errand(20, 20), 1);
        due.is("24: just then", x.served(0), 1);
        due.is("23: second", x.errand(1, 1), 2);
        due.is("23: third", x.errand(1, 2), 3);
        due.is("24: the long one is left", x.served(0), 2);
        due.is("24: late", x.served(1), 2);
        due.is("24: what 2", x.served(2), NONE);
        due.is("24: what -1", x.served(-1), NONE);
        due.is("23: none is then, due not asked", x.errand(NONE, -5), 0);
        due.is("24: none again", x.served(0), 0);
        x.errand(5, 9);
        x.errand(7, 9);
        due.is("24: as told if alike", x.served(1), 3);
        x.errand(NONE, 0);
        x.errand(10, 10);
        x.errand(2, 11);
        x.errand(2, 11);
        due.is("24: one is left for two", x.served(0), 2);
        x.errand(NONE, 0);
        for (int i = 1; i <= 10; i++) {
            due.is("23: errand " + i, x.errand(2, 0), i);
        }
        due.is("23: the eleventh", x.errand(1, 50), NONE);
        due.is("24: none in time", x.served(0), 0);
        due.is("24: all late", x.served(1), 110);
    }

    private static void lamps() {
        ArcadePoles x = new ArcadePoles();
        due.is("25: squares", x.lamps(500, 500, NONE), 22);
        due.is("25: 484", x.lamps(500, 500, 484), 1);
        due.is("25: 483", x.lamps(500, 500, 483), 0);
        due.is("25: one round", x.lamps(500, 1, NONE), 500);
        due.is("25: two rounds", x.lamps(7, 2, NONE), 4);
        due.is("25: no round", x.lamps(7, 0, 7), 0);
        due.is("25: rounds beyond n", x.lamps(3, 500, NONE), 1);
        due.is("25: n 0", x.lamps(0, 1, NONE), NONE);
        due.is("25: n 501", x.lamps(501, 1, NONE), NONE);
        due.is("25: m -1", x.lamps(5, -1, NONE), NONE);
        due.is("25: m 501", x.lamps(5, 501, NONE), NONE);
        due.is("25: j 0", x.lamps(5, 5, 0), NONE);
        due.is("25: j 6", x.lamps(5, 5, 6), NONE);
        due.is("25: j -2", x.lamps(5, 5, -2), NONE);
    }

    private static void threads() {
        ArcadePoles x = new ArcadePoles();
        due.is("26: 0", x.thread(0), NONE);
        due.is("26: 100", x.thread(100), NONE);
        due.is("26: 99", x.thread(99), 1);
        due.is("27: one", x.threads(0), 0);
        due.is("27: one side by side", x.threads(1), 0);
        due.is("26: 1", x.thread(1), 2);
        due.is("27: two", x.threads(0), 100);
        due.is("26: none is then", x.thread(NONE), 0);
        int[] told = {1, 50, 1, 50, 1, 50, 1, 50};
        for (int i = 0; i < 8; i++) {
            due.is("26: thread " + i, x.thread(told[i]), i + 1);
        }
        due.is("26: the ninth", x.thread(1), NONE);
        due.is("27: freely", x.threads(0), 2 + 2 + 4 + 54 + 100 + 154 - 50 + 204 - 50 + 50);
        due.is("27: side by side", x.threads(1), 51 * 4 + 102 * 2 + 204);
        due.is("27: what 2", x.threads(2), NONE);
        due.is("27: what -1", x.threads(-1), NONE);
    }

    private static void earned() {
        ArcadePoles x = new ArcadePoles();
        due.is("29: none", x.earned(0), -10000);
        due.is("29: none, first", x.earned(1), -10000);
        due.is("28: 100", x.earn(100), NONE);
        due.is("28: -100", x.earn(-100), NONE);
        due.is("28: -999", x.earn(-999), NONE);
        due.is("28: -5", x.earn(-5), 1);
        due.is("28: NONE is a day", x.earn(-1), 2);
        due.is("29: one at least", x.earned(0), -1);
        due.is("29: first", x.earned(1), 1);
        x.earn(0);
        due.is("29: 0", x.earned(0), 0);
        x.earn(3);
        due.is("29: 3", x.earned(0), 3);
        due.is("29: the least first day", x.earned(1), 2);
        due.is("28: none is then", x.earn(-1000), 0);
        due.is("29: none again", x.earned(0), -10000);
        for (int i = 1; i <= 12; i++) {
            due.is("28: day " + i, x.earn(99), i);
        }
        due.is("28: the thirteenth", x.earn(1), NONE);
        due.is("29: all", x.earned(0), 1188);
        due.is("29: what 2", x.earned(2), -10000);
        due.is("29: what -1", x.earned(-1), -10000);
    }

    private static void written() {
        ArcadePoles x = new ArcadePoles();
        due.is("30: right", x.written(18, 2, 0), 1);
        due.is("30: which", x.written(79927398, 0, 1), 2);
        due.is("30: 9 less", x.written(9, 1, 0), 1);
        due.is("30: 0", x.written(0, 0, 1), 0);
        due.is("30: greatest", x.written(999999999, 9, 0), 1);
        due.is("30: wrong", x.written(999999999, 8, 0), 0);
        due.is("30: number -1", x.written(-1, 0, 0), NONE);
        due.is("30: number too great", x.written(1000000000, 0, 1), NONE);
        due.is("30: check -1", x.written(1, -1, 0), NONE);
        due.is("30: check 10", x.written(1, 10, 1), NONE);
        due.is("30: what 2", x.written(1, 1, 2), NONE);
        due.is("30: what -1", x.written(1, 1, -1), NONE);
    }

    private static void year() {
        ArcadePoles x = new ArcadePoles();
        int[] letters = {6, 6, 6, 4, 6, 2, 4, 0, 2};
        for (int i = 0; i < letters.length; i++) {
            due.is("31: letter " + i + " of 3999", x.year(3999, 1 + i), letters[i]);
        }
        due.is("31: no letter 9", x.year(3999, 10), NONE);
        int[][] rows = {{1444, 6, 4, 5, 2, 3, 0, 1}, {1666, 6, 5, 4, 3, 2, 1, 0}, {49, 2, 3, 0, 2}, {90, 2, 4}};
        for (int[] row : rows) {
            due.is("31: letters of " + row[0], x.year(row[0], 0), row.length - 1);
            for (int i = 1; i < row.length; i++) {
                due.is("31: letter " + i + " of " + row[0], x.year(row[0], i), row[i]);
            }
        }
        due.is("31: 3888", x.year(3888, 0), 15);
        due.is("31: its last", x.year(3888, 15), 0);
        due.is("31: no letter 15", x.year(3888, 16), NONE);
        due.is("31: 1", x.year(1, 0), 1);
        due.is("31: one letter", x.year(3999, 101), 7);
        due.is("31: fifteen letters", x.year(3999, 115), 1);
        due.is("31: up to it, too", x.year(3888, 115), 1);
        due.is("31: ahead of it", x.year(3887, 115), 0);
        due.is("31: k 0", x.year(5, 100), NONE);
        due.is("31: k 16", x.year(5, 116), NONE);
        due.is("31: y 0", x.year(0, 0), NONE);
        due.is("31: y 4000", x.year(4000, 0), NONE);
        due.is("31: what -1", x.year(5, -1), NONE);
        due.is("31: what MIN", x.year(5, Integer.MIN_VALUE), NONE);
    }

    private static void sums() {
        ArcadePoles x = new ArcadePoles();
        due.is("32: 0", x.price(0), NONE);
        due.is("32: 100", x.price(100), NONE);
        due.is("33: none", x.sums(0), 0);
        due.is("33: no threes", x.sums(NONE), 0);
        for (int i = 1; i <= 10; i++) {
            due.is("32: price " + i, x.price(i < 6 ? 99 : i < 9 ? 33 : 66), i);
        }
        due.is("32: the eleventh", x.price(1), NONE);
        due.is("33: told alike", x.sums(198), 10);
        due.is("33: 66 of 33", x.sums(66), 3);
        due.is("33: 132", x.sums(132), 15 + 1);
        due.is("33: threes", x.sums(NONE), 3 * 2 + 3 * 2 * 5);
        due.is("33: 199", x.sums(199), NONE);
        due.is("33: -2", x.sums(-2), NONE);
        due.is("32: none is then", x.price(NONE), 0);
        due.is("33: none again", x.sums(198), 0);
    }

    private static void waltz() {
        ArcadePoles x = new ArcadePoles();
        int[] want = {1, 1, 1, 3, 3, 4, 8};
        for (int n = 0; n < want.length; n++) {
            due.is("34: waltz(" + n + ")", x.waltz(n), want[n]);
        }
        due.is("34: 31", x.waltz(31), NONE);
        due.is("34: -1", x.waltz(-1), NONE);
    }

    private static void knows() {
        ArcadePoles x = new ArcadePoles();
        due.is("35: wide of none", x.knows(NONE, 0), NONE);
        due.is("35: no shop", x.knows(0, 0), NONE);
        x.shop(1, 1);
        due.is("35: wide of one", x.knows(NONE, 99), 0);
        due.is("35: itself", x.knows(0, 0), 1);
        for (int s = 1; s < 12; s++) {
            x.shop(1, 1);
        }
        due.is("35: apart", x.knows(NONE, 0), NONE);
        StringBuilder row = new StringBuilder();
        for (int s = 0; s < 11; s++) {
            row.append("shop ").append(s).append(" by shop ").append(s + 1).append(" 9;");
        }
        row.append("shop 0 by shop 2 99;");
        due.is("35: a row", Due.text(x, 3, row.toString()), 12);
        due.is("35: wide", x.knows(NONE, -1), 10);
        due.is("35: two by one couple", x.knows(0, 1), 2);
        due.is("35: one by two", x.knows(0, 2), 1);
        due.is("35: none by eleven", x.knows(0, 11), 0);
        due.is("35: k 12", x.knows(0, 12), NONE);
        due.is("35: k -1", x.knows(0, -1), NONE);
        due.is("35: shop 12", x.knows(12, 0), NONE);
        due.is("35: shop -2", x.knows(-2, 0), NONE);
    }

    private static void lifted() {
        ArcadePoles x = new ArcadePoles();
        due.is("37: none", x.lifted(), 0);
        due.is("36: -2", x.shutter(-2), NONE);
        due.is("36: 100", x.shutter(100), NONE);
        due.is("36: 0", x.shutter(0), 1);
        due.is("37: one", x.lifted(), 0);
        x.shutter(5);
        due.is("37: 5 above", x.lifted(), 0);
        x.shutter(11);
        due.is("37: 6 above", x.lifted(), 2);
        due.is("36: none is then", x.shutter(NONE), 0);
        x.shutter(99);
        for (int i = 2; i <= 8; i++) {
            due.is("36: shutter " + i, x.shutter(0), i);
        }
        due.is("36: the ninth", x.shutter(0), NONE);
        due.is("37: a long one", x.lifted(), 94 + 89 + 84 + 79 + 74 + 69 + 64);
    }

    private static void isGame(int[] goods, int which, int howMany) {
        ArcadePoles x = new ArcadePoles();
        for (int g : goods) {
            x.shop(g, 1);
        }
        due.is("38: from which of " + java.util.Arrays.toString(goods), x.game(0), which);
        due.is("38: how many of " + java.util.Arrays.toString(goods), x.game(1), howMany);
        due.is("38: what 2", x.game(2), NONE);
        due.is("38: what -1", x.game(-1), NONE);
    }

    private static void game() {
        isGame(new int[] {}, NONE, NONE);
        isGame(new int[] {0, 0}, NONE, NONE);
        isGame(new int[] {1}, NONE, NONE);
        isGame(new int[] {2}, 0, 1);
        isGame(new int[] {0, 99}, 1, 98);
        isGame(new int[] {1, 1}, 0, 1);
        isGame(new int[] {1, 1, 1}, NONE, NONE);
        isGame(new int[] {1, 5}, 1, 5);
        isGame(new int[] {1, 1, 5}, 2, 4);
        isGame(new int[] {2, 2}, NONE, NONE);
        isGame(new int[] {3, 4, 5}, 0, 2);
        isGame(new int[] {1, 2, 3}, NONE, NONE);
        isGame(new int[] {0, 0, 0, 0, 0, 0, 0, 0, 0, 0, 3, 2}, 10, 1);
    }

    private static void undo() {
        ArcadePoles x = new ArcadePoles();
        x.shop(20, 10);
        x.customer(100, 0);
        x.customer(100, 0);
        Due.text(x, 0, "buys 1000;");
        Due.text(x, 1, "customer 0 at 0 in 0; customer 1 at 0 in 0;");
        x.hours(5);
        due.is("39: five hours, five steps", x.look(12), 5);
        int lines = x.look(6);
        int state = x.look(7);
        x.hours(1);
        due.yes("39: an hour", x.undo());
        due.is("39: state", x.look(7), state);
        due.is("39: book", x.look(6), lines);
        due.is("39: hour", x.look(2), 5);
        x.hours(60);
        due.is("39: 6 are kept", x.look(12), 6);
        for (int i = 0; i < 6; i++) {
            due.yes("39: undo " + i, x.undo());
        }
        due.no("39: no seventh", x.undo());
        due.is("39: hour 59", x.look(2) + 12 * x.look(3), 59);
        x.act(0, 0, 0);
        x.act(3, 0, 50);
        x.set(1, 0, 100);
        x.act(2, 0, 0);
        x.act(1, 0, 0);
        due.is("39: two steps behind set()", x.look(12), 2);
        due.yes("39: out", x.undo());
        due.is("39: is in", x.who(0, 2), 0);
        due.yes("39: buying", x.undo());
        due.is("39: goods", x.of(0, 0), 50);
        due.is("39: purse", x.who(0, 0), 100);
        due.no("39: no more", x.undo());
        x.act(3, 0, 7);
        tellForThought(x);
        x.act(3, 0, 100);
        x.feed(0, 0, 0, 0, 0);
        x.end(0);
        x.image(true);
        due.is("39: thought, refused ones, the image forget nothing", x.look(12), 1);
        due.yes("39: stocking", x.undo());
        due.is("39: goods again", x.of(0, 0), 50);
        due.is("39: coins stay told", x.pays(7, 0), 1);
        x.act(3, 0, 7);
        x.shop(1, 1);
        due.is("39: shop() forgets", x.look(12), 0);
        x.act(3, 0, 7);
        x.customer(1, 1);
        due.is("39: customer() forgets", x.look(12), 0);
    }

    private static void tellForThought(ArcadePoles x) {
        x.coin(7);
        x.told(1, 2, 3, 4);
        x.errand(1, 1);
        x.thread(3);
        x.earn(4);
        x.price(5);
        x.shutter(6);
        Due.text(x, 0, "buys 1;");
        Due.text(x, 3, "");
    }

    private static int glance(ArcadePoles x) {
        int all = 0;
        for (int what = 0; what <= 11; what++) {
            all = all * 31 + x.look(what);
        }
        for (int what = 0; what <= 11; what++) {
            all = (all * 31 + x.of(0, what)) * 31 + x.who(0, what);
        }
        for (int i = 0; i < 150; i++) {
            all = all * 31 + x.book(i, 3) + x.book(i, 4);
        }
        all = (all * 31 + x.pays(14, 0)) * 31 + x.after(0);
        all = (all * 31 + x.served(1)) * 31 + x.threads(0);
        all = (all * 31 + x.earned(0)) * 31 + x.sums(10);
        return all * 31 + x.lifted();
    }

    private static void image() {
        ArcadePoles x = new ArcadePoles();
        due.no("40: none taken", x.image(false));
        x.shop(20, 10);
        x.shop(20, 10);
        x.customer(100, 3);
        Due.text(x, 1, "customer 0 at 0 in 0;");
        Due.text(x, 2, "on 0 push 1 0;");
        Due.text(x, 3, "shop 0 by shop 1 4;");
        tellForThought(x);
        tellForThought(x);
        x.shutter(90);
        x.hours(14);
        due.yes("40: taken", x.image(true));
        due.is("40: what can be undone stays", x.look(12), 6);
        int seen = glance(x);
        for (int i = 0; i < 3; i++) {
            changeAll(x, i);
            due.is("40: changed", glance(x) == seen ? 1 : 0, 0);
            x.end(0);
            x.feed(1, 2, 3, 4, 5);
            due.yes("40: gone back", x.image(false));
            due.is("40: as it was", glance(x), seen);
            due.is("40: nothing to undo", x.look(12), 0);
            due.no("40: nothing undone", x.undo());
            due.yes("40: the tape stays", x.end(20));
            due.is("40: fault stays", x.fault(0), 1);
        }
        x.shop(1, 1);
        x.image(true);
        x.shop(1, 1);
        x.image(false);
        due.is("40: taken anew", x.look(0), 3);
        bookOfImage();
    }

    /** A line of the image's book that was undone, and written over since. */
    private static void bookOfImage() {
        ArcadePoles x = new ArcadePoles();
        x.shop(9, 5);
        x.customer(50, 0);
        x.customer(50, 0);
        x.act(0, 0, 0);
        x.act(0, 1, 0);
        x.act(2, 0, 0);
        x.image(true);
        due.yes("40: undone behind the image", x.undo());
        x.act(2, 1, 0);
        due.is("40: another line", x.book(0, 3), 1);
        x.image(false);
        due.is("40: the line of the image", x.book(0, 3), 0);
        due.is("40: last of the image", x.of(0, 4), 0);
    }

    private static void changeAll(ArcadePoles x, int i) {
        for (int n = 0; n < 3; n++) {
            x.undo();
        }
        x.shop(1, 1);
        x.customer(1, 1);
        x.set(0, 0, 77 + i);
        x.set(1, 0, 77 + i);
        x.set(2, 0, 7);
        x.coin(NONE);
        x.told(7, 7, 7, 7);
        x.errand(NONE, 0);
        x.thread(NONE);
        x.earn(-1000);
        x.price(NONE);
        x.shutter(NONE);
        x.end(0);
        for (int k = 0; k < 4; k++) {
            x.text(k);
        }
        x.state(i);
        x.hours(31 + i);
        Due.text(x, 0, "?");
    }

    private static void look() {
        ArcadePoles x = new ArcadePoles();
        x.shop(3, 1);
        x.shop(3, 1);
        x.shop(3, 1);
        x.customer(9, 0);
        x.state(-5);
        due.is("41: shops", x.look(0), 3);
        due.is("41: customers", x.look(1), 1);
        due.is("41: latest at first", x.look(4), 0);
        due.is("41: open", x.look(5), 7);
        due.is("41: state", x.look(7), -5);
        Due.text(x, 0, "buys 0; yields 0;");
        Due.text(x, 1, "customer 0 at 0 in 0;");
        Due.text(x, 2, "on 0 push 0 0; on 1 push 1 0; on 1 push 0 0;");
        Due.text(x, 3, "shop 0 by shop 1 1; shop 0 by shop 1 1; shop 0 by shop 1 1; shop 0 by shop 1 1;");
        due.is("41: lines of law", x.look(8), 2);
        due.is("41: lines of rounds", x.look(9), 1);
        due.is("41: lines of calendar", x.look(10), 3);
        due.is("41: lines of arcade", x.look(11), 4);
        x.hours(12);
        due.is("41: shop 0 is shut", x.look(5), 6);
        due.is("41: of several the least", x.look(4), 1);
        x.hours(12);
        due.is("41: the longest open", x.look(4), 2);
        due.is("41: open behind two days", x.look(5), 4);
        due.is("41: lines of the book", x.look(6), 9);
        due.is("41: to undo", x.look(12), 6);
        due.is("41: what 13", x.look(13), -100000);
        due.is("41: what -1", x.look(-1), -100000);
    }
}
