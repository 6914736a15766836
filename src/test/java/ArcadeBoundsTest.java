import java.util.function.Supplier;
import java.util.function.ToIntFunction;

/**
 * The boundary cases of the arcade itself: part 1 and part 3 of the terms, the promises 1 to 7, 12 to 14 and 39 to 41.
 * Each sentence that names one has a method of its own, which begins with the promise's number.
 */
public final class ArcadeBoundsTest {
    private static final int NONE = ArcadePoles.NONE;
    private static final int MIN = Integer.MIN_VALUE;
    private static final int MAX = Integer.MAX_VALUE;
    private static final int NO_SUCH = -2;
    private static final Due due = new Due("ArcadeBoundsTest");

    public static void main(String[] args) {
        p1AnEmptyArcade();
        p1HoursOfAnEmptyArcade();
        p2StateIsAnyInt();
        p2DrawsWrap();
        p3GoodsAndPrice();
        p3ThereAreTwelve();
        p4PurseAndPolite();
        p4ThereAreEighteen();
        p5Price();
        p5Purse();
        p5Polite();
        p5AnotherWhat();
        actsAndHours();
        evenings();
        p12NoneSuch();
        p12SetsAndLines();
        p13NoneSuch();
        p14NoneSuch();
        p14HundredAndFiftyLines();
        p14FullWithinAnEvening();
        p14UndoneWhenFull();
        undoAndImage();
        p41AnotherWhat();
        p41Latest();
        p41SetOfTwelve();
        due.close();
    }

    private static void actsAndHours() {
        p6GoIn();
        p6Out();
        p6Buy();
        p6CostsOfNothing();
        p6Stock();
        p6AnotherWhat();
        p7OneToSixty();
        p7DayAbove9990();
        p7HourElevenIsTheLast();
        p7CalendarOfThisDayAlone();
        p7CalendarOfTheLastOnes();
        p7GivenUpTo9999();
        p7PushedWithoutGoods();
        p7JustSoMuch();
        p7TheLastThing();
        p7BuysAboveZero();
        p7BelowItHeBuys();
        p7LinesOfOneHour();
    }

    private static void evenings() {
        p7YieldsAboveZero();
        p7BelowItHeYields();
        p7BeforeYieldsNoMore();
        p7NobodyAhead();
        p7NightsAgainZero();
        p7ShutTillTheMorning();
        p7AllAreInYet();
        p7BoughtByHandAtHourZero();
    }

    private static void undoAndImage() {
        p39Nothing();
        p39SixAreKept();
        p39KeptRoundAndRound();
        p39Forgets();
        p39DoesNotForget();
        p39TheFirstOfAll();
        p39LastAndBefore();
        p40NoneTaken();
        p40MoreThanOnce();
        p40TakenAnew();
        p40AnEmptyOne();
        p40NothingToUndo();
        p40TapeAndFaultStay();
        p40AllThatIs();
    }

    private static void refused(String what, ToIntFunction<ArcadePoles> call) {
        refusedIn(what, Refusal::filled, call, NONE);
    }

    private static void refusedIn(String what, Supplier<ArcadePoles> fill, ToIntFunction<ArcadePoles> call, int answer) {
        Refusal.is(due, what, fill, call, answer);
    }

    private static int bit(boolean yes) {
        return yes ? 1 : 0;
    }

    /** So many shops and customers, and a law by which nothing happens of itself. */
    private static ArcadePoles quiet(int shops, int customers) {
        ArcadePoles x = new ArcadePoles();
        for (int s = 0; s < shops; s++) {
            x.shop(50, 10);
        }
        for (int c = 0; c < customers; c++) {
            x.customer(1000, 5);
        }
        Due.text(x, 0, "buys 0; yields 0;");
        return x;
    }

    /** STATE as it is behind a DRAW, reckoned with longs. */
    private static int drawn(int state) {
        return (int) (1664525L * state + 1013904223L);
    }

    /** What a DRAW of 1000 comes to. */
    private static int thousandth(int state) {
        return (int) (((drawn(state) & 0xffffffffL) >> 8) % 1000);
    }

    /** A STATE from which a DRAW of 1000 comes to this, with or without the sign in front of its bits. */
    private static int stateFor(int draw, boolean negative) {
        int state = 1;
        while (thousandth(state) != draw || drawn(state) < 0 != negative) {
            state++;
        }
        return state;
    }

    private static void p1AnEmptyArcade() {
        ArcadePoles x = new ArcadePoles();
        for (int what = 0; what <= 12; what++) {
            due.is("1: look(" + what + ")", x.look(what), what == 4 ? NONE : 0);
        }
        due.is("1: no shop", x.of(0, 0), NO_SUCH);
        due.is("1: no customer", x.who(0, 0), NO_SUCH);
        due.is("1: no line", x.book(0, 0), NONE);
        due.is("1: no fault", x.fault(0), 0);
        due.is("1: no place", x.fault(1), NONE);
        due.is("1: an empty tape", bit(x.end(0)) * 10 + bit(x.end(1)), 10);
        due.is("1: no coin", x.pays(1, 0), NONE);
        due.is("1: after you is 0", x.after(0), 0);
        due.is("1: no errand", x.served(0), 0);
        due.is("1: no thread", x.threads(0), 0);
        due.is("1: no day", x.earned(0), -10000);
        due.is("1: no price", x.sums(2), 0);
        due.is("1: no shutter", x.lifted(), 0);
        due.no("1: nothing to undo", x.undo());
        due.no("1: no image", x.image(false));
    }

    private static void p1HoursOfAnEmptyArcade() {
        ArcadePoles x = new ArcadePoles();
        due.is("1: a day without anything", x.hours(12), 0);
        due.is("1: day", x.look(3), 1);
        due.is("1: no line of it", x.look(6), 0);
        due.is("1: no draw", x.look(7), 0);
    }

    private static void p2StateIsAnyInt() {
        ArcadePoles x = new ArcadePoles();
        int[] states = {MIN, MAX, -1, 0, 1};
        int was = 0;
        for (int state : states) {
            due.is("2: state(" + state + ")", x.state(state), was);
            due.is("2: look(7)", x.look(7), state);
            was = state;
        }
    }

    private static void p2DrawsWrap() {
        for (int state : new int[] {0, 1, -1, MIN, MAX, 1013904223, -775096599}) {
            ArcadePoles x = quiet(1, 1);
            Due.text(x, 0, "buys 1000;");
            x.act(0, 0, 0);
            x.state(state);
            due.is("2: below 1000 whatever is drawn from " + state, x.hours(1), 1);
            due.is("2: behind " + state, x.look(7), drawn(state));
        }
    }

    private static void p3GoodsAndPrice() {
        for (int goods : new int[] {MIN, -1, 100, MAX}) {
            refused("3: goods " + goods, x -> x.shop(goods, 5));
        }
        for (int price : new int[] {MIN, -1, 0, 100, MAX}) {
            refused("3: price " + price, x -> x.shop(5, price));
        }
        ArcadePoles x = new ArcadePoles();
        due.is("3: the least", x.shop(0, 1), 0);
        due.is("3: the most", x.shop(99, 99), 1);
        due.is("3: goods 0", x.of(0, 0), 0);
        due.is("3: price 1", x.of(0, 1), 1);
        due.is("3: goods 99", x.of(1, 0), 99);
        due.is("3: price 99", x.of(1, 1), 99);
    }

    private static ArcadePoles twelveShops() {
        ArcadePoles x = Refusal.filled();
        while (x.look(0) < 12) {
            x.shop(1, 1);
        }
        x.hours(1);
        return x;
    }

    private static void p3ThereAreTwelve() {
        refusedIn("3: the thirteenth", ArcadeBoundsTest::twelveShops, x -> x.shop(5, 5), NONE);
        ArcadePoles x = twelveShops();
        due.is("3: twelve", x.look(0), 12);
        due.yes("3: the twelfth is a shop", x.act(0, 0, 11));
        due.no("3: there is no thirteenth", x.act(0, 0, 12));
    }

    private static void p4PurseAndPolite() {
        for (int purse : new int[] {MIN, -1, 10000, MAX}) {
            refused("4: purse " + purse, x -> x.customer(purse, 5));
        }
        for (int polite : new int[] {MIN, -1, 10, MAX}) {
            refused("4: polite " + polite, x -> x.customer(5, polite));
        }
        ArcadePoles x = new ArcadePoles();
        due.is("4: the least", x.customer(0, 0), 0);
        due.is("4: the most", x.customer(9999, 9), 1);
        due.is("4: purse 0", x.who(0, 0), 0);
        due.is("4: polite 0", x.who(0, 1), 0);
        due.is("4: purse 9999", x.who(1, 0), 9999);
        due.is("4: polite 9", x.who(1, 1), 9);
    }

    private static ArcadePoles eighteenCustomers() {
        ArcadePoles x = Refusal.filled();
        while (x.look(1) < 18) {
            x.customer(10, 1);
        }
        x.hours(1);
        return x;
    }

    private static void p4ThereAreEighteen() {
        refusedIn("4: the nineteenth", ArcadeBoundsTest::eighteenCustomers, x -> x.customer(5, 5), NONE);
        ArcadePoles x = eighteenCustomers();
        due.is("4: eighteen", x.look(1), 18);
        due.yes("4: the eighteenth goes in", x.act(0, 17, 1));
        due.no("4: there is no nineteenth", x.act(0, 18, 1));
    }

    private static void refusedToSet(int what, int who, int v) {
        refusedIn("5: set(" + what + ", " + who + ", " + v + ")", Refusal::filled, x -> bit(x.set(what, who, v)), 0);
    }

    private static void p5Price() {
        for (int v : new int[] {MIN, -1, 0, 100, MAX}) {
            refusedToSet(0, 0, v);
        }
        for (int who : new int[] {MIN, -1, 2, MAX}) {
            refusedToSet(0, who, 5);
        }
        ArcadePoles x = Refusal.filled();
        due.yes("5: price 1", x.set(0, 1, 1));
        due.is("5: is 1", x.of(1, 1), 1);
        due.yes("5: price 99", x.set(0, 1, 99));
        due.is("5: is 99", x.of(1, 1), 99);
        due.is("5: the other's stays", x.of(0, 1), 10);
    }

    private static void p5Purse() {
        for (int v : new int[] {MIN, -1, 10000, MAX}) {
            refusedToSet(1, 0, v);
        }
        for (int who : new int[] {MIN, -1, 2, MAX}) {
            refusedToSet(1, who, 5);
        }
        ArcadePoles x = Refusal.filled();
        due.yes("5: purse 0", x.set(1, 1, 0));
        due.is("5: is 0", x.who(1, 0), 0);
        due.yes("5: purse 9999", x.set(1, 1, 9999));
        due.is("5: is 9999", x.who(1, 0), 9999);
    }

    private static void p5Polite() {
        for (int v : new int[] {MIN, -1, 10, MAX}) {
            refusedToSet(2, 0, v);
        }
        for (int who : new int[] {MIN, -1, 2, MAX}) {
            refusedToSet(2, who, 5);
        }
        ArcadePoles x = Refusal.filled();
        due.yes("5: polite 0", x.set(2, 1, 0));
        due.is("5: is 0", x.who(1, 1), 0);
        due.yes("5: polite 9", x.set(2, 1, 9));
        due.is("5: is 9", x.who(1, 1), 9);
    }

    private static void p5AnotherWhat() {
        for (int what : new int[] {MIN, -1, 3, MAX}) {
            refusedToSet(what, 0, 5);
        }
        ArcadePoles x = new ArcadePoles();
        due.no("5: no shop at all", x.set(0, 0, 5));
        due.no("5: no customer at all", x.set(1, 0, 5));
        due.no("5: none that is polite", x.set(2, 0, 5));
        x.shop(1, 1);
        due.no("5: a shop is no customer", x.set(1, 0, 5));
    }

    private static void refusedToAct(String what, int act, int who, int v) {
        refusedIn("6: " + what, Refusal::filled, x -> bit(x.act(act, who, v)), 0);
    }

    private static void p6GoIn() {
        for (int who : new int[] {MIN, -1, 2, MAX}) {
            refusedToAct("customer " + who + " goes in", 0, who, 0);
        }
        for (int shop : new int[] {MIN, -1, 2, MAX}) {
            refusedToAct("to go in shop " + shop, 0, 0, shop);
        }
        refusedToAct("he is in it", 0, 0, 1);
        refusedIn("6: it is shut", ArcadeBoundsTest::aShutOne, x -> bit(x.act(0, 0, 0)), 0);
        ArcadePoles x = Refusal.filled();
        due.yes("6: from one into the other", x.act(0, 0, 0));
        due.is("6: is in the other alone", x.of(0, 7) * 10 + x.of(1, 7), 30);
    }

    private static ArcadePoles aShutOne() {
        ArcadePoles x = quiet(2, 2);
        x.hours(1);
        x.act(0, 0, 0);
        x.act(2, 0, 0);
        x.hours(11);
        return x;
    }

    private static void p6Out() {
        for (int who : new int[] {MIN, -1, 2, MAX}) {
            refusedToAct("customer " + who + " goes out", 1, who, 0);
        }
        refusedIn("6: out, but in none", () -> quiet(1, 1), x -> bit(x.act(1, 0, 0)), 0);
        for (int v : new int[] {MIN, -1, 77, MAX}) {
            ArcadePoles x = Refusal.filled();
            due.yes("6: out, v not asked: " + v, x.act(1, 0, v));
            due.is("6: is out", x.who(0, 2), NONE);
        }
    }

    private static void p6Buy() {
        for (int who : new int[] {MIN, -1, 2, MAX}) {
            refusedToAct("customer " + who + " buys", 2, who, 0);
        }
        refusedIn("6: to buy, but in none", () -> quiet(1, 1), x -> bit(x.act(2, 0, 0)), 0);
        refusedIn("6: no goods", () -> buyer(0, 100), x -> bit(x.act(2, 0, 0)), 0);
        refusedIn("6: one too few", () -> buyer(1, 9), x -> bit(x.act(2, 0, 0)), 0);
        for (int v : new int[] {MIN, -1, 77, MAX}) {
            ArcadePoles x = buyer(1, 10);
            due.yes("6: just so much, the last thing, v not asked: " + v, x.act(2, 0, v));
            due.is("6: purse", x.who(0, 0), 0);
            due.is("6: goods", x.of(0, 0), 0);
            due.is("6: till", x.of(0, 2), 10);
        }
    }

    private static ArcadePoles buyer(int goods, int purse) {
        ArcadePoles x = quiet(1, 1);
        x.set(1, 0, purse);
        x.act(0, 0, 0);
        x.act(3, 0, goods);
        return x;
    }

    private static void p6CostsOfNothing() {
        ArcadePoles x = buyer(2, 0);
        Due.text(x, 0, "costs 0-1;");
        due.yes("6: costs nothing, purse 0", x.act(2, 0, 0));
        due.is("6: a line of nothing", x.book(0, 4), 0);
        Due.text(x, 0, "costs 9999;");
        x.set(1, 0, 998);
        due.no("6: 999 at most, 998 is too little", x.act(2, 0, 0));
        x.set(1, 0, 999);
        due.yes("6: 999 is enough", x.act(2, 0, 0));
        due.is("6: till", x.of(0, 2), 999);
    }

    private static void p6Stock() {
        for (int who : new int[] {MIN, -1, 2, MAX}) {
            refusedToAct("shop " + who + " has goods", 3, who, 5);
        }
        for (int v : new int[] {MIN, -1, 100, MAX}) {
            refusedToAct("goods " + v, 3, 0, v);
        }
        ArcadePoles x = aShutOne();
        due.yes("6: goods 0", x.act(3, 0, 0));
        due.is("6: are 0", x.of(0, 0), 0);
        due.yes("6: goods 99, the shop is shut", x.act(3, 0, 99));
        due.is("6: are 99", x.of(0, 0), 99);
        due.yes("6: the same again", x.act(3, 0, 99));
        due.is("6: each can be undone", x.look(12), 6);
    }

    private static void p6AnotherWhat() {
        for (int what : new int[] {MIN, -1, 4, MAX}) {
            refusedToAct("what " + what, what, 0, 0);
        }
    }

    private static void p7OneToSixty() {
        for (int n : new int[] {MIN, -1, 0, 61, MAX}) {
            refused("7: hours(" + n + ")", x -> x.hours(n));
        }
        ArcadePoles x = new ArcadePoles();
        due.is("7: one", x.hours(1), 0);
        due.is("7: hour", x.look(2), 1);
        due.is("7: sixty", x.hours(60), 0);
        due.is("7: five days", x.look(3), 5);
        due.is("7: and the hour", x.look(2), 1);
    }

    /** It takes more than 512 calls to come there; the bound is kept all the same. */
    private static void p7DayAbove9990() {
        ArcadePoles x = new ArcadePoles();
        for (int i = 0; i < 1997; i++) {
            x.hours(60);
        }
        due.is("7: day", x.look(3), 9985);
        x.hours(11);
        due.is("7: up to day 9990, hour 11", x.hours(60), 0);
        due.is("7: day 9990", x.look(3), 9990);
        due.is("7: hour 11", x.look(2), 11);
        due.is("7: day 9991", x.hours(1), NONE);
        due.is("7: nothing is done", x.look(3) * 12 + x.look(2), 9990 * 12 + 11);
        due.is("7: six can be undone yet", x.look(12), 6);
        x.undo();
        due.is("7: two would be one too many", x.hours(2), NONE);
        due.is("7: one is not", x.hours(1), 0);
    }

    private static void p7HourElevenIsTheLast() {
        ArcadePoles x = quiet(1, 0);
        x.hours(11);
        due.is("7: hour 11", x.look(2), 11);
        due.is("7: of day 0", x.look(3), 0);
        due.is("7: no evening yet", x.of(0, 6), 0);
        x.hours(1);
        due.is("7: hour 0", x.look(2), 0);
        due.is("7: of day 1", x.look(3), 1);
        due.is("7: an evening", x.of(0, 6), 1);
        due.is("7: written at hour 11", x.book(0, 1), 11);
        due.is("7: of that day", x.book(0, 0), 0);
    }

    private static void p7CalendarOfThisDayAlone() {
        ArcadePoles x = quiet(1, 1);
        x.hours(11);
        Due.text(x, 2, "on 0 stock 0 1; on 1 stock 0 2; on 2 stock 0 3;");
        x.hours(1);
        due.is("7: not in the evening of day 0", x.of(0, 0), 50);
        x.hours(1);
        due.is("7: in the morning of day 1", x.of(0, 0), 2);
        x.act(3, 0, 7);
        x.hours(11);
        due.is("7: not later that day", x.of(0, 0), 7);
        x.hours(1);
        due.is("7: in the morning of day 2", x.of(0, 0), 3);
        x.act(3, 0, 8);
        x.hours(12);
        due.is("7: not on day 3", x.of(0, 0), 8);
    }

    private static void p7CalendarOfTheLastOnes() {
        ArcadePoles x = quiet(12, 18);
        Due.text(x, 2, "on 0 stock 11 99; on 0 price 11 1; on 0 give 17 1; on 0 push 11 17;");
        x.hours(1);
        due.is("7: goods of the twelfth", x.of(11, 0), 98);
        due.is("7: price of the twelfth", x.of(11, 1), 1);
        due.is("7: purse of the eighteenth", x.who(17, 0), 1001);
        due.is("7: he has the thing", x.who(17, 4), 1);
        due.is("7: he is last", x.of(11, 4), 17);
        due.is("7: no other price", x.of(0, 1) + x.of(1, 1), 20);
        due.is("7: the pushed one in the book", x.book(0, 3) * 100 + x.book(0, 4), 1711);
    }

    private static void p7GivenUpTo9999() {
        for (int purse : new int[] {8999, 9000, 9001, 9999}) {
            ArcadePoles x = quiet(0, 1);
            x.set(1, 0, purse);
            Due.text(x, 2, "on 0 give 0 999;");
            x.hours(1);
            due.is("7: 999 more than " + purse, x.who(0, 0), Math.min(9999, purse + 999));
        }
    }

    private static void p7PushedWithoutGoods() {
        ArcadePoles x = quiet(1, 2);
        x.act(3, 0, 1);
        Due.text(x, 2, "on 0 push 0 0; on 0 push 0 1;");
        due.is("7: pushed is not bought", x.hours(1), 0);
        due.is("7: the last thing", x.of(0, 0), 0);
        due.is("7: the first has it", x.who(0, 4), 1);
        due.is("7: the second has nothing", x.who(1, 4), 0);
        due.is("7: last", x.of(0, 4), 0);
        due.is("7: before", x.of(0, 5), NONE);
        due.is("7: one line", x.look(6), 1);
        due.is("7: for nothing", x.who(0, 0) + x.of(0, 2), 1000);
        due.is("7: in none all the same", x.who(0, 2), NONE);
    }

    private static void p7JustSoMuch() {
        for (int purse : new int[] {9, 10}) {
            ArcadePoles x = buyer(5, purse);
            Due.text(x, 0, "buys 1000;");
            due.is("7: purse " + purse + ", costs 10", x.hours(1), purse == 10 ? 1 : 0);
            due.is("7: what is left of " + purse, x.who(0, 0), purse % 10);
            due.is("7: not asked, no draw", x.look(7) == 0 ? 1 : 0, purse == 9 ? 1 : 0);
        }
    }

    private static void p7TheLastThing() {
        ArcadePoles x = quiet(1, 3);
        Due.text(x, 0, "buys 1000; yields 0;");
        x.act(3, 0, 2);
        for (int c = 0; c < 3; c++) {
            x.act(0, c, 0);
        }
        due.is("7: two things for three", x.hours(1), 2);
        due.is("7: two draws", x.look(7), drawn(drawn(0)));
        due.is("7: last", x.of(0, 4), 1);
        due.is("7: before", x.of(0, 5), 0);
        due.is("7: none left", x.hours(1), 0);
    }

    private static void p7BuysAboveZero() {
        for (int buys = 0; buys <= 1; buys++) {
            ArcadePoles x = buyer(5, 100);
            Due.text(x, 0, "buys " + buys + ";");
            x.state(stateFor(0, false));
            int state = x.look(7);
            due.is("7: buys " + buys, x.hours(1), buys);
            due.is("7: a draw by buys " + buys, x.look(7), buys == 0 ? state : drawn(state));
        }
    }

    private static void p7BelowItHeBuys() {
        for (int draw : new int[] {1, 2, 499, 998, 999}) {
            for (int more = 0; more <= 1; more++) {
                for (boolean negative : new boolean[] {false, true}) {
                    ArcadePoles x = buyer(5, 100);
                    Due.text(x, 0, "buys " + (draw + more) + ";");
                    x.state(stateFor(draw, negative));
                    due.is("7: draw " + draw + ", buys " + (draw + more), x.hours(1), more);
                }
            }
        }
    }

    private static void p7LinesOfOneHour() {
        ArcadePoles x = quiet(2, 1);
        Due.text(x, 1, "customer 0 at 11 in 1; customer 0 at 0 in 0; customer 0 at 0 out; customer 0 at 1 out;");
        x.hours(1);
        due.is("7: line by line, out again", x.who(0, 2), NONE);
        x.hours(1);
        due.is("7: out, though in none", x.who(0, 2), NONE);
        Due.text(x, 0, "buys 1000;");
        x.hours(9);
        due.is("7: hour 11", x.look(2), 11);
        due.is("7: in and buys in the last hour", x.hours(1), 1);
        due.is("7: all are in none", x.who(0, 2), NONE);
    }

    /** Behind an evening of SHOP 0 where 0 and then 1 bought, or 1 alone. */
    private static ArcadePoles evening(String law, int state, boolean two) {
        ArcadePoles x = quiet(1, 2);
        x.hours(11);
        for (int c = two ? 0 : 1; c < 2; c++) {
            x.act(0, c, 0);
            x.act(2, c, 0);
        }
        Due.text(x, 0, law);
        x.state(state);
        x.hours(1);
        return x;
    }

    private static void p7YieldsAboveZero() {
        int state = stateFor(0, true);
        ArcadePoles x = evening("buys 0; yields 0;", state, true);
        due.is("7: yields 0, no draw", x.look(7), state);
        due.is("7: has the pole", x.who(1, 3), 1);
        x = evening("buys 0; yields 1;", state, true);
        due.is("7: yields 1, a draw", x.look(7), drawn(state));
        due.is("7: below it the one ahead has it", x.who(0, 3), 1);
        due.is("7: not who was last", x.who(1, 3), 0);
    }

    private static void p7BelowItHeYields() {
        for (int draw : new int[] {1, 500, 999}) {
            for (int more = 0; more <= 1; more++) {
                ArcadePoles x = evening("buys 0; yields " + (draw + more) + ";", stateFor(draw, false), true);
                due.is("7: draw " + draw + ", yields " + (draw + more), x.who(1 - more, 3), 1);
                due.is("7: one pole", x.who(0, 3) + x.who(1, 3), 1);
            }
        }
    }

    private static void p7BeforeYieldsNoMore() {
        ArcadePoles x = evening("buys 0; yields 1000;", 5, true);
        due.is("7: one draw", x.look(7), drawn(5));
        due.is("7: the one ahead has it", x.who(0, 3), 1);
        due.is("7: shut", x.of(0, 3), 0);
    }

    private static void p7NobodyAhead() {
        ArcadePoles x = evening("buys 0; yields 1000;", 5, false);
        due.is("7: nobody has it", x.who(0, 3) + x.who(1, 3), 0);
        due.is("7: stays open", x.of(0, 3), 1);
        due.is("7: nights", x.of(0, 6), 1);
        due.is("7: after you", x.book(x.look(6) - 2, 2), 2);
        due.is("7: stayed open", x.book(x.look(6) - 1, 2), 4);
        due.is("7: nights in the book", x.book(x.look(6) - 1, 4), 1);
    }

    private static void p7NightsAgainZero() {
        ArcadePoles x = quiet(1, 1);
        for (int day = 1; day <= 3; day++) {
            x.hours(12);
            due.is("7: nights behind day " + day, x.of(0, 6), day);
            due.is("7: in the book", x.book(day - 1, 4), day);
        }
        x.hours(1);
        x.act(0, 0, 0);
        x.act(2, 0, 0);
        x.hours(11);
        due.is("7: shut, nights 0", x.of(0, 6), 0);
        x.hours(12);
        due.is("7: open again, nights 1", x.of(0, 6), 1);
    }

    private static void p7ShutTillTheMorning() {
        ArcadePoles x = aShutOne();
        due.is("7: open 0", x.of(0, 3), 0);
        due.is("7: last is told yet", x.of(0, 4), 0);
        Due.text(x, 1, "customer 1 at 0 in 0;");
        x.hours(1);
        due.is("7: open in the morning, ahead of the rounds", x.who(1, 2), 0);
        due.is("7: open 1", x.of(0, 3), 1);
        due.is("7: last none", x.of(0, 4), NONE);
    }

    private static void p7AllAreInYet() {
        ArcadePoles x = evening("buys 0; yields 1000 when crowd = 2;", 5, true);
        due.is("7: two are in it while yields is asked", x.who(0, 3), 1);
        x = evening("buys 0; yields 1000 when hour = 11 and day = 0;", 5, true);
        due.is("7: hour 11 yet, day 0 yet", x.who(0, 3), 1);
    }

    private static void p7BoughtByHandAtHourZero() {
        ArcadePoles x = quiet(1, 1);
        x.act(0, 0, 0);
        x.act(2, 0, 0);
        due.is("7: last by hand", x.of(0, 4), 0);
        x.hours(1);
        due.is("7: none in the morning behind it", x.of(0, 4), NONE);
        due.is("7: but he is in it", x.who(0, 2), 0);
        x.hours(11);
        due.is("7: and it stays open", x.of(0, 3), 1);
    }

    private static void p12NoneSuch() {
        ArcadePoles x = Refusal.filled();
        for (int shop : new int[] {MIN, -1, 2, 12, MAX}) {
            due.is("12: shop " + shop, x.of(shop, 0), NO_SUCH);
            due.is("12: from shop " + shop, x.of(shop, 10), NO_SUCH);
        }
        for (int what : new int[] {MIN, MIN + 9, MIN + 10, -1, 8, 9, 12, 21, 22, MAX}) {
            due.is("12: what " + what, x.of(0, what), NO_SUCH);
        }
        due.is("12: what 7 is one", x.of(0, 7) == NO_SUCH ? 1 : 0, 0);
        due.is("12: itself", x.of(0, 10), NONE);
        due.is("12: the other", x.of(0, 11), 4);
        Due.text(x, 3, "");
        due.is("12: no line", x.of(0, 11), NONE);
    }

    private static void p12SetsAndLines() {
        ArcadePoles x = twelveShops();
        due.is("12: to the twelfth", x.of(0, 21), NONE);
        due.is("12: there is no thirteenth", x.of(0, 22), NO_SUCH);
        ArcadePoles y = eighteenCustomers();
        for (int c = 0; c < 18; c++) {
            y.act(0, c, 1);
        }
        due.is("12: all eighteen", y.of(1, 7), (1 << 18) - 1);
        due.is("12: nobody", y.of(0, 7), 0);
        y.end(0);
        Due.text(y, 3, "shop 1 by shop 0 99; shop 0 by shop 1 1; shop 0 by shop 1 50;");
        due.is("12: of several the fewest, either way", y.of(0, 11) * 100 + y.of(1, 10), 101);
    }

    private static void p13NoneSuch() {
        ArcadePoles x = Refusal.filled();
        for (int customer : new int[] {MIN, -1, 2, 18, MAX}) {
            due.is("13: customer " + customer, x.who(customer, 0), NO_SUCH);
            due.is("13: costs for customer " + customer, x.who(customer, 50), NO_SUCH);
        }
        int[] wrong = {MIN, MIN + 9, MIN + 29, MIN + 49, -1, 5, 9, 12, 22, 29, 32, 42, 49, 52, 62, MAX};
        for (int what : wrong) {
            due.is("13: what " + what, x.who(0, what), NO_SUCH);
        }
        for (int what : new int[] {11, 31, 51}) {
            due.yes("13: what " + what + " is one", x.who(0, what) >= 0);
        }
        ArcadePoles y = twelveShops();
        for (int what : new int[] {21, 41, 61}) {
            due.yes("13: the twelfth, what " + what, y.who(0, what) >= 0);
            due.is("13: no thirteenth, what " + what, y.who(0, what + 1), NO_SUCH);
        }
    }

    private static void p14NoneSuch() {
        ArcadePoles x = Refusal.filled();
        int lines = x.look(6);
        for (int i : new int[] {MIN, -1, lines, 150, MAX}) {
            due.is("14: line " + i, x.book(i, 0), NONE);
        }
        for (int what : new int[] {MIN, -1, 5, MAX}) {
            due.is("14: what " + what, x.book(0, what), NONE);
        }
        due.is("14: the first one", x.book(0, 2), 1);
        due.is("14: the last one", x.book(lines - 1, 2), 0);
    }

    private static void p14HundredAndFiftyLines() {
        ArcadePoles x = quiet(1, 1);
        Due.text(x, 0, "costs bought - 40;");
        x.set(1, 0, 9999);
        x.act(0, 0, 0);
        for (int i = 0; i < 149; i++) {
            x.act(3, 0, 9);
            x.act(2, 0, 0);
        }
        due.is("14: 149 lines", x.look(6), 149);
        x.act(2, 0, 0);
        due.is("14: 150 lines", x.look(6), 150);
        due.yes("14: bought without a line", x.act(2, 0, 0));
        due.is("14: bought", x.who(0, 4), 151);
        due.is("14: no more lines", x.look(6), 150);
        due.is("14: the last one stays", x.book(149, 4), 109);
        due.is("14: line 150", x.book(150, 4), NONE);
    }

    private static ArcadePoles twelveDays() {
        ArcadePoles x = quiet(12, 0);
        for (int i = 0; i < 12; i++) {
            x.hours(12);
        }
        return x;
    }

    private static void p14FullWithinAnEvening() {
        ArcadePoles x = twelveDays();
        due.is("14: twelve shops, twelve days", x.look(6), 144);
        x.hours(12);
        due.is("14: six lines more", x.look(6), 150);
        due.is("14: the last of them", x.book(149, 3), 5);
        due.is("14: of day 12", x.book(149, 0), 12);
        due.is("14: the evening goes on", x.of(11, 6), 13);
        x.hours(12);
        due.is("14: none of day 13", x.book(149, 0), 12);
    }

    private static void p14UndoneWhenFull() {
        ArcadePoles x = twelveDays();
        x.hours(12);
        due.yes("14: the full book goes back", x.undo());
        due.is("14: lines", x.look(6), 144);
        due.is("14: there is none such", x.book(144, 0), NONE);
        x.hours(13);
        due.yes("14: an evening without lines goes back", x.undo());
        due.is("14: full yet", x.look(6), 150);
        due.is("14: nights", x.of(0, 6), 13);
    }

    private static void p39Nothing() {
        refusedIn("39: nothing", () -> quiet(2, 2), x -> bit(x.undo()), 0);
        ArcadePoles x = quiet(1, 1);
        x.hours(1);
        due.yes("39: one", x.undo());
        due.no("39: and nothing", x.undo());
        due.is("39: hour", x.look(2), 0);
    }

    private static void p39SixAreKept() {
        for (int n : new int[] {5, 6, 7, 60}) {
            ArcadePoles x = quiet(1, 1);
            x.hours(n);
            due.is("39: kept of " + n, x.look(12), Math.min(6, n));
            for (int left = Math.min(6, n); left > 0; left--) {
                due.yes("39: undo, left " + left, x.undo());
                due.is("39: kept then", x.look(12), left - 1);
            }
            due.no("39: no seventh", x.undo());
            due.is("39: hours left of " + n, x.look(3) * 12 + x.look(2), Math.max(0, n - 6));
        }
    }

    private static void p39KeptRoundAndRound() {
        ArcadePoles x = quiet(1, 1);
        int goods = 50;
        for (int round = 1; round <= 9; round++) {
            for (int i = 0; i < round; i++) {
                x.act(3, 0, goods + 1 + i);
            }
            for (int i = Math.min(6, round); i > 0; i--) {
                due.yes("39: round " + round, x.undo());
                due.is("39: goods of round " + round, x.of(0, 0), goods + round - Math.min(6, round) + i - 1);
            }
            goods = x.of(0, 0);
        }
        due.no("39: nothing behind all rounds", x.undo());
    }

    private static void forgets(String what, ToIntFunction<ArcadePoles> call) {
        ArcadePoles x = Refusal.filled();
        x.end(0);
        int kept = x.look(12);
        due.yes("39: there is something", kept > 0);
        call.applyAsInt(x);
        due.is("39: " + what + " forgets", x.look(12), 0);
        due.no("39: nothing behind " + what, x.undo());
    }

    private static void p39Forgets() {
        forgets("state()", x -> x.state(x.look(7)));
        forgets("shop()", x -> x.shop(1, 1));
        forgets("customer()", x -> x.customer(1, 1));
        forgets("a price as it was", x -> bit(x.set(0, 0, x.of(0, 1))));
        forgets("a purse", x -> bit(x.set(1, 0, 3)));
        forgets("how polite", x -> bit(x.set(2, 0, 3)));
        forgets("rounds", x -> Due.text(x, 1, "customer 0 at 0 out;"));
        forgets("empty rounds", x -> x.text(1));
        forgets("a calendar", x -> Due.text(x, 2, "on 0 push 0 0;"));
        forgets("an empty calendar", x -> x.text(2));
        forgets("the image", x -> bit(x.image(false)));
    }

    private static void doesNotForget(String what, ToIntFunction<ArcadePoles> call) {
        ArcadePoles x = Refusal.filled();
        x.end(0);
        int kept = x.look(12);
        call.applyAsInt(x);
        due.is("39: " + what + " does not forget", x.look(12), kept);
        due.yes("39: undo behind " + what, x.undo());
    }

    private static void p39DoesNotForget() {
        doesNotForget("the law", x -> Due.text(x, 0, "buys 1;"));
        doesNotForget("an empty law", x -> x.text(0));
        doesNotForget("the arcade", x -> Due.text(x, 3, "shop 0 by shop 1 1;"));
        doesNotForget("a text with a fault", x -> Due.text(x, 1, "customer 9"));
        doesNotForget("a calendar with a fault", x -> Due.text(x, 2, "on 0 push 0 0"));
        doesNotForget("no such text", x -> x.text(4));
        doesNotForget("feed()", x -> x.feed(1, 2, 3, 4, 5));
        doesNotForget("end()", x -> bit(x.end(0)));
        doesNotForget("a coin", x -> x.coin(9));
        doesNotForget("no coin", x -> x.coin(NONE));
        doesNotForget("after you", x -> bit(x.told(1, 2, 3, 4)));
        doesNotForget("an errand", x -> x.errand(1, 1));
        doesNotForget("no errand", x -> x.errand(NONE, 1));
        doesNotForget("a thread", x -> x.thread(1));
        doesNotForget("a day", x -> x.earn(1));
        doesNotForget("a price for sums", x -> x.price(1));
        doesNotForget("a shutter", x -> x.shutter(1));
        doesNotForget("the taking of the image", x -> bit(x.image(true)));
        doesNotForget("what is thought", x -> x.goes(60, 0) + x.cheaply(0) + x.tramp(0, 0) + x.game(0));
    }

    private static void p39TheFirstOfAll() {
        ArcadePoles x = quiet(1, 1);
        x.act(0, 0, 0);
        x.act(2, 0, 0);
        due.yes("39: buying", x.undo());
        due.is("39: purse", x.who(0, 0), 1000);
        due.is("39: no line", x.look(6), 0);
        due.is("39: no last", x.of(0, 4), NONE);
        due.yes("39: going in", x.undo());
        due.is("39: in none", x.who(0, 2), NONE);
        due.no("39: nothing", x.undo());
    }

    private static void p39LastAndBefore() {
        ArcadePoles x = quiet(1, 3);
        for (int c = 0; c < 3; c++) {
            x.act(0, c, 0);
        }
        for (int c = 0; c < 3; c++) {
            x.act(2, c, 0);
        }
        for (int c = 2; c >= 0; c--) {
            due.is("39: last " + c, x.of(0, 4), c);
            due.is("39: before " + c, x.of(0, 5), c - 1);
            due.yes("39: the buying of " + c, x.undo());
        }
        due.is("39: neither", x.of(0, 4) + x.of(0, 5), 2 * NONE);
    }

    private static void p40NoneTaken() {
        refusedIn("40: none", ArcadeBoundsTest::aShutOne, x -> bit(x.image(false)), 0);
        ArcadePoles x = quiet(1, 1);
        x.hours(3);
        due.no("40: there is none", x.image(false));
        due.is("40: refused, it forgets nothing", x.look(12), 3);
    }

    private static void p40MoreThanOnce() {
        ArcadePoles x = Refusal.filled();
        x.image(true);
        int goods = x.of(0, 0);
        for (int i = 0; i < 3; i++) {
            x.act(3, 0, 77);
            x.shop(1, 1);
            x.coin(NONE);
            due.yes("40: gone back, time " + i, x.image(false));
            due.is("40: goods", x.of(0, 0), goods);
            due.is("40: shops", x.look(0), 2);
            due.is("40: coins", x.pays(8, 0), 2);
        }
        due.yes("40: on end, too", x.image(false));
    }

    private static void p40TakenAnew() {
        ArcadePoles x = quiet(1, 1);
        x.image(true);
        x.hours(2);
        x.image(true);
        x.hours(3);
        x.image(false);
        due.is("40: the later one", x.look(2), 2);
    }

    private static void p40AnEmptyOne() {
        ArcadePoles x = new ArcadePoles();
        due.yes("40: of an empty arcade", x.image(true));
        x.shop(1, 1);
        x.customer(1, 1);
        Due.text(x, 1, "customer 0 at 0 in 0;");
        x.hours(13);
        x.state(5);
        due.yes("40: gone back", x.image(false));
        for (int what = 0; what <= 12; what++) {
            due.is("40: look(" + what + ")", x.look(what), what == 4 ? NONE : 0);
        }
        due.is("40: shops come anew", x.shop(9, 9), 0);
        due.is("40: as new ones", x.of(0, 6) * 10 + x.of(0, 3), 1);
    }

    private static void p40NothingToUndo() {
        ArcadePoles x = quiet(1, 1);
        x.hours(6);
        due.yes("40: taken", x.image(true));
        due.is("40: six yet", x.look(12), 6);
        due.yes("40: gone back", x.image(false));
        due.is("40: nothing then", x.look(12), 0);
        due.no("40: nothing is undone", x.undo());
        due.is("40: hour 6", x.look(2), 6);
    }

    private static void p40TapeAndFaultStay() {
        ArcadePoles x = quiet(1, 1);
        x.image(true);
        due.is("40: a fault", Due.text(x, 1, "customer 0 at 12 out;"), NONE);
        x.feed(0, 0, 0, 0, 0);
        x.image(false);
        due.is("40: the fault stays", x.fault(0) * 100 + x.fault(1), 214);
        due.is("40: the tape stays", x.feed(0, 0, 0, 0, 0), 40);
    }

    /** Of two that are filled alike, one is changed in all ways and gone back; the TAPE and fault() are made alike. */
    private static void p40AllThatIs() {
        ArcadePoles plain = Refusal.filled();
        ArcadePoles back = Refusal.filled();
        plain.image(true);
        back.image(true);
        changeAll(back);
        due.yes("40: gone back", plain.image(false) && back.image(false));
        plain.text(4);
        back.text(4);
        due.yes("40: all is as it was", Refusal.sight(back).equals(Refusal.sight(plain)));
    }

    private static void changeAll(ArcadePoles x) {
        x.set(0, 1, 99);
        x.set(1, 1, 9999);
        x.set(2, 0, 0);
        x.shop(1, 1);
        x.customer(1, 1);
        x.act(0, 1, 1);
        x.act(2, 1, 0);
        x.act(2, 0, 0);
        x.hours(30);
        x.end(0);
        for (int k = 0; k < 4; k++) {
            x.text(k);
        }
        x.coin(NONE);
        x.told(0, 0, 0, 1);
        x.errand(NONE, 0);
        x.thread(NONE);
        x.earn(-1000);
        x.price(NONE);
        x.shutter(NONE);
        x.state(1);
    }

    private static void p41AnotherWhat() {
        ArcadePoles x = Refusal.filled();
        for (int what : new int[] {MIN, -1, 13, MAX}) {
            due.is("41: what " + what, x.look(what), -100000);
        }
        x.state(-100000);
        due.is("41: state as it is", x.look(7), -100000);
    }

    private static void p41Latest() {
        ArcadePoles x = new ArcadePoles();
        due.is("41: no shops", x.look(4), NONE);
        x.shop(9, 9);
        due.is("41: also 0", x.look(4), 0);
        x.shop(9, 9);
        x.shop(9, 9);
        x.customer(99, 0);
        due.is("41: of several the least", x.look(4), 0);
        Due.text(x, 2, "on 0 push 0 0; on 1 push 1 0;");
        x.hours(12);
        due.is("41: of two the least", x.look(4), 1);
        x.hours(12);
        due.is("41: the greatest", x.look(4), 2);
        x.shop(9, 9);
        due.is("41: a new one has none", x.look(4), 2);
    }

    private static void p41SetOfTwelve() {
        ArcadePoles x = quiet(12, 1);
        due.is("41: twelve open", x.look(5), 4095);
        Due.text(x, 2, "on 0 push 11 0; on 0 push 0 0;");
        x.hours(12);
        due.is("41: the first and the last are shut", x.look(5), 4095 - 2049);
        x.hours(1);
        due.is("41: all open", x.look(5), 4095);
    }
}
