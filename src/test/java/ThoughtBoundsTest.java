import java.util.function.Supplier;
import java.util.function.ToIntFunction;

/**
 * The boundary cases of what is thought of: part 4 of the terms, the promises 15 to 38. Each sentence that names one
 * has a method of its own, which begins with the promise's number.
 */
public final class ThoughtBoundsTest {
    private static final int NONE = ArcadePoles.NONE;
    private static final int MIN = Integer.MIN_VALUE;
    private static final int MAX = Integer.MAX_VALUE;
    private static final Due due = new Due("ThoughtBoundsTest");

    public static void main(String[] args) {
        ofTheArcade();
        coins();
        afterYou();
        p22OneCantBe();
        p22Edges();
        errands();
        p25OneCantBe();
        p25Edges();
        threads();
        days();
        p30OneCantBe();
        p30Edges();
        p31OneCantBe();
        p31Edges();
        prices();
        p34OneCantBe();
        p34Edges();
        shutters();
        games();
        oneBehindAnother();
        due.close();
    }

    private static void ofTheArcade() {
        p15OneCantBe();
        p15FiveHundredAtLeast();
        p15NothingOfItStays();
        p15EmptyAndSixty();
        p16AnotherWhat();
        p16NoneSuch();
        p16ItCantBe();
        p16PurseHasIt();
        p16EightShops();
        p16OfSeveralWays();
        p16ShutOnes();
        p17NoneSuch();
        p17OneAlone();
        p17Apart();
        p17TwelveInARow();
        p17ComesThroughAgain();
        p35OneCantBe();
        p35Edges();
        p35AskedFirst();
    }

    private static void coins() {
        p18OneCantBe();
        p18ThereAreSix();
        p18ToldAgain();
        p18NoneIsThen();
        p19OneCantBe();
        p19NoCoins();
        p19GivenBack();
        p19FarAndWide();
    }

    private static void afterYou() {
        p20OneCantBe();
        p20ZeroAtFirst();
        p21AnotherWhat();
        p21LowIsHigh();
        p21Fractions();
        p21Extremes();
    }

    private static void errands() {
        p23OneCantBe();
        p23ThereAreTen();
        p23NoneIsThen();
        p24AnotherWhat();
        p24JustThen();
        p24NoneInTime();
        p24AsToldIfAlike();
        p24TheOthersLeft();
    }

    private static void threads() {
        p26OneCantBe();
        p26ThereAreEight();
        p27FewerThanTwo();
        p27Eight();
    }

    private static void days() {
        p28OneCantBe();
        p28ThereAreTwelve();
        p29NoneTold();
        p29OneAtLeast();
        p29TheLeastFirstDay();
        p29Twelve();
    }

    private static void prices() {
        p32OneCantBe();
        p32ThereAreTen();
        p33OneCantBe();
        p33Edges();
        p33ToldAlike();
    }

    private static void shutters() {
        p36OneCantBe();
        p36ThereAreEight();
        p37NoneAndOne();
        p37FiveAndSix();
        p37Steepest();
    }

    private static void games() {
        p38AnotherWhat();
        p38NoGoods();
        p38OnesAlone();
        p38TheLastBigOne();
        p38LeastAndFewest();
        p38TwelveShops();
    }

    private static void refused(String what, ToIntFunction<ArcadePoles> call) {
        Refusal.is(due, what, Refusal::filled, call, NONE);
    }

    private static void refusedIn(String what, Supplier<ArcadePoles> fill, ToIntFunction<ArcadePoles> call) {
        Refusal.is(due, what, fill, call, NONE);
    }

    private static ArcadePoles arcade(int shops, int customers) {
        ArcadePoles x = new ArcadePoles();
        for (int s = 0; s < shops; s++) {
            x.shop(5, 10);
        }
        for (int c = 0; c < customers; c++) {
            x.customer(100, 5);
        }
        return x;
    }

    private static void p15OneCantBe() {
        for (int n : new int[] {MIN, -1, 0, 61, MAX}) {
            refused("15: n " + n, x -> x.goes(n, 0));
        }
        for (int what : new int[] {MIN, -1, 4, MAX}) {
            refused("15: what " + what, x -> x.goes(1, what));
        }
        ArcadePoles x = Refusal.filled();
        due.yes("15: n 1", x.goes(1, 0) >= 0);
        due.yes("15: n 60, what 3", x.goes(60, 3) >= 0);
    }

    private static void p15FiveHundredAtLeast() {
        for (int likely = 499; likely <= 500; likely++) {
            ArcadePoles x = arcade(1, 2);
            x.hours(11);
            x.act(0, 0, 0);
            x.act(0, 1, 0);
            Due.text(x, 0, "buys " + likely + ";");
            due.is("15: tills, buys " + likely, x.goes(1, 0), likely == 500 ? 20 : 0);
            due.is("15: goods, buys " + likely, x.goes(1, 1), likely == 500 ? 3 : 5);
            Due.text(x, 0, "buys 1000 when bought = 0 and purse = 100; buys 0; yields " + likely + " when polite=9;");
            x.set(2, 1, 9);
            due.is("15: poles, yields " + likely, x.goes(1, 2), 1);
            x.act(1, 0, 0);
            due.is("15: poles, nobody ahead, yields " + likely, x.goes(1, 2), 500 - likely);
            due.is("15: not open, yields " + likely, x.goes(1, 3), 500 - likely);
        }
    }

    private static void p15NothingOfItStays() {
        for (int what = 0; what < 4; what++) {
            int asked = what;
            ArcadePoles plain = Refusal.filled();
            ArcadePoles thought = Refusal.filled();
            thought.goes(60, asked);
            due.yes("15: all is as it was, what " + what, Refusal.sight(thought).equals(Refusal.sight(plain)));
        }
    }

    private static void p15EmptyAndSixty() {
        ArcadePoles x = new ArcadePoles();
        for (int what = 0; what < 4; what++) {
            due.is("15: an empty arcade, what " + what, x.goes(60, what), 0);
        }
        ArcadePoles y = arcade(12, 0);
        Due.text(y, 2, "on 4 stock 11 0; on 5 stock 0 0;");
        due.is("15: day 4 is within sixty hours, day 5 not", y.goes(60, 1), 55);
        y.hours(1);
        due.is("15: day 5 is one hour later", y.goes(60, 1), 50);
    }

    private static void p16AnotherWhat() {
        ArcadePoles x = arcade(8, 18);
        for (int what : new int[] {MIN, MIN + 9, -1, 1, 9, 18, 21, MAX}) {
            due.is("16: what " + what, x.cheaply(what), NONE);
        }
        due.is("16: what 0", x.cheaply(0), 80);
        due.is("16: what 10", x.cheaply(10), 0);
        due.is("16: what 17", x.cheaply(17), 7);
        due.is("16: nothing stays", x.look(6) + x.look(7) + x.look(12), 0);
    }

    private static void p16NoneSuch() {
        ArcadePoles x = new ArcadePoles();
        due.is("16: no shops: 0", x.cheaply(0), 0);
        due.is("16: no shop 0", x.cheaply(10), NONE);
        x.shop(0, 10);
        due.is("16: no goods: 0", x.cheaply(0), 0);
        due.is("16: not asked for", x.cheaply(10), NONE);
        due.is("16: no shop 1", x.cheaply(11), NONE);
        x.act(3, 0, 1);
        due.is("16: goods, but nobody", x.cheaply(0), NONE);
        x.customer(10, 0);
        due.is("16: somebody", x.cheaply(0), 10);
        due.is("16: he", x.cheaply(10), 0);
    }

    private static void p16ItCantBe() {
        ArcadePoles x = arcade(3, 2);
        due.is("16: three shops, two customers", x.cheaply(0), NONE);
        for (int s = 0; s < 3; s++) {
            due.is("16: whom shop " + s, x.cheaply(10 + s), NONE);
        }
        x.customer(100, 0);
        due.is("16: each his own", x.cheaply(0), 30);
    }

    private static void p16PurseHasIt() {
        ArcadePoles x = arcade(1, 1);
        x.set(1, 0, 9);
        due.is("16: one too few", x.cheaply(0), NONE);
        x.set(1, 0, 10);
        due.is("16: just so much", x.cheaply(0), 10);
        Due.text(x, 0, "costs 0;");
        x.set(1, 0, 0);
        due.is("16: costs nothing", x.cheaply(0), 0);
        due.is("16: he gets it", x.cheaply(10), 0);
    }

    private static void p16EightShops() {
        ArcadePoles x = arcade(12, 18);
        due.is("16: shops 0 to 7 alone", x.cheaply(0), 80);
        for (int s = 0; s < 8; s++) {
            x.act(3, s, 0);
        }
        due.is("16: shops 8 to 11 are not asked for", x.cheaply(0), 0);
        Due.text(x, 0, "costs 999;");
        for (int c = 0; c < 18; c++) {
            x.set(1, c, 999 - (c < 10 ? 1 : 0));
        }
        for (int s = 0; s < 8; s++) {
            x.act(3, s, 99);
        }
        due.is("16: the dearest there is", x.cheaply(0), 8 * 999);
        for (int s = 0; s < 8; s++) {
            due.is("16: the last customers, shop " + s, x.cheaply(10 + s), 10 + s);
        }
        x.set(1, 17, 0);
        due.is("16: one too few of them", x.cheaply(0), NONE);
    }

    private static void p16OfSeveralWays() {
        ArcadePoles x = arcade(2, 3);
        Due.text(x, 0, "costs 3 when polite = 1 and price = 10; costs 4 when polite = 1; costs 4 when price = 10;"
            + "costs 5;");
        x.set(0, 1, 11);
        x.set(2, 1, 1);
        // 0 in shop 0 and 1 in shop 1 is 4 + 4, 1 in shop 0 and 0 in shop 1 is 3 + 5.
        due.is("16: the same either way", x.cheaply(0), 8);
        due.is("16: shop 0 the least", x.cheaply(10), 0);
        due.is("16: shop 1 then", x.cheaply(11), 1);
    }

    private static void p16ShutOnes() {
        ArcadePoles x = arcade(2, 2);
        Due.text(x, 0, "buys 0; yields 0;");
        Due.text(x, 2, "on 0 push 0 0;");
        x.hours(12);
        due.is("16: shop 0 is shut", x.of(0, 3), 0);
        due.is("16: shop 1 alone", x.cheaply(0), 10);
        due.is("16: shop 0 is not asked for", x.cheaply(10), NONE);
        due.is("16: shop 1 gets the least", x.cheaply(11), 0);
    }

    private static void p17NoneSuch() {
        ArcadePoles x = Refusal.filled();
        for (int a : new int[] {MIN, -1, 2, 12, MAX}) {
            due.is("17: from " + a, x.tramp(a, 0), NONE);
            due.is("17: last from " + a, x.tramp(a, 1), NONE);
        }
        for (int what : new int[] {MIN, -1, 2, MAX}) {
            due.is("17: what " + what, x.tramp(0, what), NONE);
        }
        due.is("17: no shops", new ArcadePoles().tramp(0, 0), NONE);
    }

    private static void p17OneAlone() {
        ArcadePoles x = arcade(1, 0);
        due.is("17: 0 steps", x.tramp(0, 0), 0);
        due.is("17: itself", x.tramp(0, 1), 0);
    }

    private static void p17Apart() {
        ArcadePoles x = arcade(3, 0);
        due.is("17: no line", x.tramp(1, 0), NONE);
        due.is("17: no last one", x.tramp(1, 1), NONE);
        Due.text(x, 3, "shop 0 by shop 1 1;");
        due.is("17: one apart", x.tramp(1, 0), NONE);
        due.is("17: no last one either", x.tramp(1, 1), NONE);
        due.is("17: from who is apart", x.tramp(2, 0), NONE);
        Due.text(x, 3, "shop 0 by shop 1 1; shop 2 by shop 0 99;");
        due.is("17: together", x.tramp(1, 0), 100);
        due.is("17: the last one", x.tramp(1, 1), 2);
    }

    private static void p17TwelveInARow() {
        ArcadePoles x = arcade(12, 0);
        StringBuilder row = new StringBuilder();
        for (int s = 0; s < 11; s++) {
            row.append("shop ").append(s).append(" by shop ").append(s + 1).append(" 99;");
        }
        Due.text(x, 3, row.toString());
        due.is("17: from the first", x.tramp(0, 0), 11 * 99);
        due.is("17: to the twelfth", x.tramp(0, 1), 11);
        due.is("17: from the twelfth", x.tramp(11, 0), 11 * 99);
        due.is("17: to the first", x.tramp(11, 1), 0);
        due.is("17: from the second", x.tramp(1, 0), 12 * 99);
        due.is("17: from the second to the twelfth", x.tramp(1, 1), 11);
        due.is("17: from the sixth", x.tramp(5, 0), 16 * 99);
        due.is("17: wide, too", x.knows(NONE, 0), 11);
        due.is("17: eleven couples away", x.knows(0, 11), 1);
    }

    private static void p17ComesThroughAgain() {
        ArcadePoles x = arcade(4, 0);
        Due.text(x, 3, "shop 3 by shop 0 1; shop 3 by shop 1 1; shop 3 by shop 2 1;");
        due.is("17: a star from its middle", x.tramp(3, 0), 5);
        due.is("17: of several the least", x.tramp(3, 1), 0);
        due.is("17: from a tip", x.tramp(0, 0), 4);
        due.is("17: of two the least", x.tramp(0, 1), 1);
    }

    private static void p35OneCantBe() {
        ArcadePoles x = Refusal.filled();
        for (int a : new int[] {MIN, -2, 2, 12, MAX}) {
            due.is("35: a " + a, x.knows(a, 0), NONE);
        }
        for (int k : new int[] {MIN, -1, 12, MAX}) {
            due.is("35: k " + k, x.knows(0, k), NONE);
            due.is("35: wide, k not asked: " + k, x.knows(NONE, k), 1);
        }
    }

    private static void p35Edges() {
        ArcadePoles x = new ArcadePoles();
        due.is("35: no shops", x.knows(NONE, 0), NONE);
        due.is("35: no shop 0", x.knows(0, 0), NONE);
        x.shop(1, 1);
        due.is("35: one alone", x.knows(NONE, 0), 0);
        due.is("35: itself is 0 away", x.knows(0, 0), 1);
        due.is("35: nobody 11 away", x.knows(0, 11), 0);
        x.shop(1, 1);
        due.is("35: not together", x.knows(NONE, 0), NONE);
        due.is("35: none is away by lines", x.knows(0, 1), 0);
        x.shop(1, 1);
        Due.text(x, 3, "shop 0 by shop 1 99; shop 1 by shop 2 99; shop 2 by shop 0 99;");
        due.is("35: a ring is 1 wide, steps not asked", x.knows(NONE, 0), 1);
        due.is("35: two by one couple", x.knows(0, 1), 2);
        due.is("35: no fewer, so none by two", x.knows(0, 2), 0);
    }

    private static void p35AskedFirst() {
        for (int k = 0; k <= 3; k++) {
            ArcadePoles x = arcade(4, 0);
            Due.text(x, 3, "shop 0 by shop 1 9; shop 1 by shop 3 1;");
            due.is("35: nothing asked ahead, k " + k, x.knows(0, k), k < 3 ? 1 : 0);
        }
        ArcadePoles x = arcade(3, 0);
        Due.text(x, 3, "shop 0 by shop 1 9; shop 1 by shop 2 1;");
        due.is("35: steps ahead of it", x.tramp(0, 0), 10);
        due.is("35: couples behind it", x.knows(0, 2), 1);
        due.is("35: steps again", x.tramp(2, 0), 10);
        due.is("35: wide behind it", x.knows(NONE, 0), 2);
    }

    private static void p18OneCantBe() {
        for (int v : new int[] {MIN, -2, 0, 51, MAX}) {
            refused("18: coin " + v, x -> x.coin(v));
        }
        ArcadePoles x = new ArcadePoles();
        due.is("18: the least", x.coin(1), 1);
        due.is("18: the greatest", x.coin(50), 2);
    }

    private static ArcadePoles sixCoins() {
        ArcadePoles x = Refusal.filled();
        for (int v = 40; v < 44; v++) {
            x.coin(v);
        }
        return x;
    }

    private static void p18ThereAreSix() {
        refusedIn("18: the seventh", ThoughtBoundsTest::sixCoins, x -> x.coin(50));
        refusedIn("18: there are six, one of them again", ThoughtBoundsTest::sixCoins, x -> x.coin(43));
        due.is("18: the sixth counts", sixCoins().pays(43, 0), 1);
    }

    private static void p18ToldAgain() {
        ArcadePoles x = new ArcadePoles();
        for (int v = 1; v <= 5; v++) {
            due.is("18: coin " + v, x.coin(v), v);
            due.is("18: again " + v, x.coin(v), v);
            due.is("18: the first again", x.coin(1), v);
        }
        due.is("18: ways, each counts once", x.pays(4, 1), 5);
    }

    private static void p18NoneIsThen() {
        ArcadePoles x = sixCoins();
        due.is("18: none is then", x.coin(NONE), 0);
        due.is("18: none can be paid", x.pays(5, 0), NONE);
        due.is("18: none of none", x.coin(NONE), 0);
        due.is("18: anew", x.coin(43), 1);
    }

    private static void p19OneCantBe() {
        ArcadePoles x = Refusal.filled();
        for (int p : new int[] {MIN, -1, 201, MAX}) {
            due.is("19: p " + p, x.pays(p, 0), NONE);
            due.is("19: gives " + p, x.pays(p, 1), NONE);
        }
        for (int what : new int[] {MIN, -1, 2, MAX}) {
            due.is("19: what " + what, x.pays(5, what), NONE);
            due.is("19: nothing, what " + what, x.pays(0, what), NONE);
        }
        due.is("19: p 200", x.pays(200, 0), 40);
    }

    private static void p19NoCoins() {
        ArcadePoles x = new ArcadePoles();
        due.is("19: nothing is paid", x.pays(0, 0), 0);
        due.is("19: in one way", x.pays(0, 1), 1);
        for (int p : new int[] {1, 200}) {
            due.is("19: can't be paid: " + p, x.pays(p, 0), NONE);
            due.is("19: in no way: " + p, x.pays(p, 1), 0);
        }
        x.coin(50);
        due.is("19: nothing, with a coin", x.pays(0, 0) * 10 + x.pays(0, 1), 1);
    }

    private static void p19GivenBack() {
        ArcadePoles x = new ArcadePoles();
        x.coin(50);
        x.coin(48);
        due.is("19: odd ones can't be", x.pays(1, 0), NONE);
        due.is("19: one back", x.pays(2, 0), 2);
        due.is("19: not given without back", x.pays(2, 1), 0);
        due.is("19: four and one back", x.pays(152, 0), 5);
        x.coin(49);
        due.is("19: 1 by two", x.pays(1, 0), 2);
        due.is("19: 199 is 50, 50, 50, 49", x.pays(199, 0), 4);
        due.is("19: 200", x.pays(200, 0), 4);
    }

    /** The sums on the way may be far from what is paid: compared with a search over sums from -2000 to 2000. */
    private static void p19FarAndWide() {
        int[][] rows = {{50, 49}, {50, 47, 43}, {1}, {7, 11}, {50}, {49, 37}, {50, 1}, {3, 5, 7, 11, 13, 17}};
        for (int[] row : rows) {
            ArcadePoles x = new ArcadePoles();
            for (int v : row) {
                x.coin(v);
            }
            int[] hands = new int[4001];
            java.util.Arrays.fill(hands, NONE);
            java.util.ArrayDeque<Integer> next = new java.util.ArrayDeque<>();
            hands[2000] = 0;
            next.add(2000);
            while (!next.isEmpty()) {
                int at = next.remove();
                for (int v : row) {
                    for (int to : new int[] {at - v, at + v}) {
                        if (to >= 0 && to <= 4000 && hands[to] == NONE) {
                            hands[to] = hands[at] + 1;
                            next.add(to);
                        }
                    }
                }
            }
            for (int p = 0; p <= 200; p++) {
                due.is("19: " + p + " by " + java.util.Arrays.toString(row), x.pays(p, 0), hands[2000 + p]);
            }
        }
    }

    private static void p20OneCantBe() {
        for (int v : new int[] {MIN, -100, 100, MAX}) {
            for (int at = 0; at < 4; at++) {
                int which = at;
                Refusal.is(due, "20: " + v + " at " + at, Refusal::filled,
                    x -> x.told(which == 0 ? v : 1, which == 1 ? v : 1, which == 2 ? v : 1, which == 3 ? v : 1) ? 1 : 0,
                    0);
            }
        }
        ArcadePoles x = new ArcadePoles();
        due.yes("20: the least", x.told(-99, -99, -99, -99));
        due.is("20: value", x.after(0), -99);
        due.yes("20: the greatest", x.told(99, 99, 99, 99));
        due.is("20: value", x.after(0), 99);
    }

    private static void isAfter(ArcadePoles x, int above, int below, int often, int by) {
        int[] want = {above, below, often, by};
        for (int what = 0; what < 4; what++) {
            due.is("21: after(" + what + ")", x.after(what), want[what]);
        }
    }

    private static void isAfter(int a, int b, int c, int d, int[] want) {
        ArcadePoles x = new ArcadePoles();
        x.told(a, b, c, d);
        isAfter(x, want[0], want[1], want[2], want[3]);
    }

    private static void p20ZeroAtFirst() {
        isAfter(new ArcadePoles(), 0, 1, 1, 1);
    }

    private static void p21AnotherWhat() {
        ArcadePoles x = Refusal.filled();
        for (int what : new int[] {MIN, -1, 4, MAX}) {
            due.is("21: what " + what, x.after(what), -10000);
        }
    }

    private static void p21LowIsHigh() {
        isAfter(5, 3, 2, 1, new int[] {3, 1, 1, 1});
        isAfter(2, 1, 5, 3, new int[] {3, 1, 0, 1});
        isAfter(3, 3, 3, 3, new int[] {3, 1, 1, 1});
        isAfter(3, 4, 3, 2, new int[] {3, 1, 1, 1});
        isAfter(-1, -2, -3, -4, new int[] {-2, 1, 1, 1});
        isAfter(0, 5, 0, -5, new int[] {0, 1, 1, 1});
        isAfter(-1, 9, 0, 0, new int[] {0, 1, 0, 1});
    }

    private static void p21Fractions() {
        isAfter(1, -1, -1, 1, new int[] {0, 1, 1, 2});
        isAfter(-1, 1, 1, -1, new int[] {0, 1, 1, 2});
        isAfter(2, 0, 0, 1, new int[] {2, 3, 1, 3});
        isAfter(0, 2, 1, 0, new int[] {2, 3, 1, 3});
        isAfter(-2, 0, 0, -1, new int[] {-2, 3, 1, 3});
        isAfter(0, -2, -1, 0, new int[] {-2, 3, 1, 3});
    }

    private static void p21Extremes() {
        isAfter(99, -99, -99, 99, new int[] {0, 1, 1, 2});
        isAfter(99, -99, -98, 99, new int[] {99, 395, 197, 395});
        isAfter(-99, 99, 99, -98, new int[] {99, 395, 197, 395});
        isAfter(-99, 99, -99, 99, new int[] {-99, 1, 1, 1});
        isAfter(99, 99, -99, -99, new int[] {99, 1, 1, 1});
    }

    private static void p22OneCantBe() {
        ArcadePoles x = new ArcadePoles();
        for (int n : new int[] {MIN, -1, 0, 101, MAX}) {
            due.is("22: n " + n, x.ring(n, 1, 0), NONE);
        }
        for (int k : new int[] {MIN, -1, 0, 101, MAX}) {
            due.is("22: k " + k, x.ring(5, k, 0), NONE);
        }
        for (int i : new int[] {MIN, -1, 5, 100, MAX}) {
            due.is("22: i " + i, x.ring(5, 1, i), NONE);
        }
        due.is("22: the last i", x.ring(5, 1, 4), 4);
    }

    private static void p22Edges() {
        ArcadePoles x = new ArcadePoles();
        due.is("22: one alone", x.ring(1, 1, 0), 0);
        due.is("22: one alone, each hundredth", x.ring(1, 100, 0), 0);
        due.is("22: no second of one", x.ring(1, 100, 1), NONE);
        due.is("22: each first of 100, the last", x.ring(100, 1, 99), 99);
        due.is("22: each hundredth of 100", x.ring(100, 100, 0), 99);
        due.is("22: then once around", x.ring(100, 100, 1), 0);
        due.is("22: who is left of 100", x.ring(100, 2, 99), 72);
        due.is("22: each third of two", x.ring(2, 3, 0), 0);
        due.is("22: just around", x.ring(4, 4, 0), 3);
        due.is("22: one further", x.ring(4, 5, 0), 0);
    }

    private static void p23OneCantBe() {
        for (int needs : new int[] {MIN, -2, 0, 21, MAX}) {
            refused("23: needs " + needs, x -> x.errand(needs, 5));
        }
        for (int by : new int[] {MIN, -1, 100, MAX}) {
            refused("23: due " + by, x -> x.errand(5, by));
        }
        ArcadePoles x = new ArcadePoles();
        due.is("23: the least", x.errand(1, 0), 1);
        due.is("23: the greatest", x.errand(20, 99), 2);
        due.is("24: of them one", x.served(0), 1);
        due.is("24: by one late", x.served(1), 1);
    }

    private static ArcadePoles tenErrands() {
        ArcadePoles x = Refusal.filled();
        for (int i = 3; i <= 10; i++) {
            due.is("23: errand " + i, x.errand(i, 50), i);
        }
        return x;
    }

    private static void p23ThereAreTen() {
        refusedIn("23: the eleventh", ThoughtBoundsTest::tenErrands, x -> x.errand(1, 99));
        due.is("24: ten, 3 + 2 + 3 .. 10", tenErrands().served(1), 2 - 1 + 57 - 50);
    }

    private static void p23NoneIsThen() {
        for (int by : new int[] {MIN, -1, 0, 100, MAX}) {
            ArcadePoles x = tenErrands();
            due.is("23: none is then, due not asked: " + by, x.errand(NONE, by), 0);
            due.is("24: none in time", x.served(0), 0);
            due.is("24: none late", x.served(1), 0);
            due.is("23: anew", x.errand(9, 1), 1);
            due.is("24: by 8 late", x.served(1), 8);
        }
    }

    private static void p24AnotherWhat() {
        ArcadePoles x = Refusal.filled();
        for (int what : new int[] {MIN, -1, 2, MAX}) {
            due.is("24: what " + what, x.served(what), NONE);
        }
        ArcadePoles y = new ArcadePoles();
        due.is("24: none told", y.served(0), 0);
        due.is("24: none told, none late", y.served(1), 0);
        due.is("24: none told, what 2", y.served(2), NONE);
    }

    private static void p24JustThen() {
        for (int by = 4; by <= 6; by++) {
            ArcadePoles x = new ArcadePoles();
            x.errand(2, 2);
            x.errand(3, by);
            due.is("24: through at 5, due at " + by, x.served(0), by < 5 ? 1 : 2);
            due.is("24: late, due at " + by, x.served(1), by < 5 ? 1 : 0);
        }
    }

    private static void p24NoneInTime() {
        ArcadePoles x = new ArcadePoles();
        x.errand(1, 0);
        due.is("24: due at 0", x.served(0), 0);
        due.is("24: by one late", x.served(1), 1);
        x.errand(NONE, 0);
        for (int i = 0; i < 10; i++) {
            x.errand(20, 0);
        }
        due.is("24: ten, none in time", x.served(0), 0);
        due.is("24: ten, all late", x.served(1), 20 * 55);
    }

    private static void p24AsToldIfAlike() {
        ArcadePoles x = new ArcadePoles();
        x.errand(9, 5);
        x.errand(1, 5);
        due.is("24: 9, then 1", x.served(1), 4 + 5);
        due.is("24: in whatever order", x.served(0), 1);
        x.errand(NONE, 0);
        x.errand(1, 5);
        x.errand(9, 5);
        due.is("24: 1, then 9", x.served(1), 5);
    }

    private static void isServed(int[] told, int howMany, int late) {
        ArcadePoles x = new ArcadePoles();
        for (int i = 0; i < told.length; i += 2) {
            x.errand(told[i], told[i + 1]);
        }
        due.is("24: how many of " + java.util.Arrays.toString(told), x.served(0), howMany);
        due.is("24: late of " + java.util.Arrays.toString(told), x.served(1), late);
    }

    private static void p24TheOthersLeft() {
        isServed(new int[] {9, 9, 4, 10, 4, 11}, 2, 3 + 6);
        isServed(new int[] {5, 20, 5, 6, 5, 10, 5, 11}, 3, 4);
        isServed(new int[] {2, 9, 2, 8, 2, 7, 6, 6}, 3, 1 + 2 + 3);
        isServed(new int[] {19, 99, 20, 80, 20, 60, 20, 40, 20, 20}, 5, 0);
        isServed(new int[] {20, 99, 20, 80, 20, 60, 20, 40, 20, 20}, 4, 1);
        isServed(new int[] {8, 8, 8, 9, 1, 10, 1, 11, 1, 12}, 4, 7 + 7 + 7 + 7);
    }

    private static void p25OneCantBe() {
        ArcadePoles x = new ArcadePoles();
        for (int n : new int[] {MIN, -1, 0, 501, MAX}) {
            due.is("25: n " + n, x.lamps(n, 1, NONE), NONE);
        }
        for (int m : new int[] {MIN, -1, 501, MAX}) {
            due.is("25: m " + m, x.lamps(5, m, NONE), NONE);
            due.is("25: m " + m + ", lamp 1", x.lamps(5, m, 1), NONE);
        }
        for (int j : new int[] {MIN, -2, 0, 6, 500, MAX}) {
            due.is("25: j " + j, x.lamps(5, 5, j), NONE);
        }
    }

    private static void p25Edges() {
        ArcadePoles x = new ArcadePoles();
        due.is("25: no round", x.lamps(500, 0, NONE), 0);
        due.is("25: no round, the last", x.lamps(500, 0, 500), 0);
        due.is("25: one lamp, one round", x.lamps(1, 1, 1), 1);
        due.is("25: one lamp, beyond it none is there", x.lamps(1, 500, NONE), 1);
        due.is("25: the last lamp by the last round", x.lamps(500, 499, 500) * 10 + x.lamps(500, 500, 500), 10);
        due.is("25: rounds beyond n", x.lamps(499, 500, NONE), x.lamps(499, 499, NONE));
        due.is("25: 22 squares", x.lamps(500, 500, NONE), 22);
        due.is("25: the first lamp", x.lamps(5, 5, 1), 1);
        due.is("25: the last lamp", x.lamps(5, 5, 5), 0);
        due.is("25: nothing burns from before", x.lamps(500, 0, NONE), 0);
    }

    private static void p26OneCantBe() {
        for (int v : new int[] {MIN, -2, 0, 100, MAX}) {
            refused("26: thread " + v, x -> x.thread(v));
        }
        ArcadePoles x = new ArcadePoles();
        due.is("26: the least", x.thread(1), 1);
        due.is("26: the greatest", x.thread(99), 2);
        due.is("27: both", x.threads(0), 100);
    }

    private static ArcadePoles eightThreads() {
        ArcadePoles x = Refusal.filled();
        for (int i = 3; i <= 8; i++) {
            due.is("26: thread " + i, x.thread(i), i);
        }
        return x;
    }

    private static void p26ThereAreEight() {
        refusedIn("26: the ninth", ThoughtBoundsTest::eightThreads, x -> x.thread(1));
        ArcadePoles x = eightThreads();
        due.is("26: none is then", x.thread(NONE), 0);
        due.is("27: none", x.threads(0) + x.threads(1), 0);
        due.is("26: anew", x.thread(5), 1);
    }

    private static void p27FewerThanTwo() {
        ArcadePoles x = new ArcadePoles();
        for (int what : new int[] {MIN, -1, 2, MAX}) {
            due.is("27: what " + what, x.threads(what), NONE);
        }
        due.is("27: none", x.threads(0), 0);
        due.is("27: none side by side", x.threads(1), 0);
        x.thread(99);
        due.is("27: one", x.threads(0), 0);
        due.is("27: one side by side", x.threads(1), 0);
        x.thread(99);
        due.is("27: two", x.threads(0), 198);
        due.is("27: two side by side", x.threads(1), 198);
    }

    private static void p27Eight() {
        ArcadePoles x = new ArcadePoles();
        for (int i = 0; i < 8; i++) {
            x.thread(99);
        }
        due.is("27: eight alike", x.threads(0), 99 * 8 * 3);
        due.is("27: eight alike side by side", x.threads(1), 99 * 8 * 3);
        x.thread(NONE);
        for (int i = 0; i < 8; i++) {
            x.thread(i % 2 == 0 ? 1 : 99);
        }
        // The four ones first, 2 + 2 + 4, then 4 + 99 and 99 + 99, then all.
        due.is("27: freely", x.threads(0), 8 + 103 + 198 + 202 + 400);
        due.is("27: side by side", x.threads(1), 4 * 100 + 2 * 200 + 400);
    }

    private static void p28OneCantBe() {
        for (int v : new int[] {MIN, -1001, -999, -100, 100, MAX}) {
            refused("28: day " + v, x -> x.earn(v));
        }
        ArcadePoles x = new ArcadePoles();
        due.is("28: the least", x.earn(-99), 1);
        due.is("28: the greatest", x.earn(99), 2);
        due.is("28: NONE is a day", x.earn(NONE), 3);
        due.is("29: the most", x.earned(0), 99);
        due.is("29: its day", x.earned(1), 1);
    }

    private static ArcadePoles twelveDays() {
        ArcadePoles x = Refusal.filled();
        for (int i = 3; i <= 12; i++) {
            due.is("28: day " + i, x.earn(i), i);
        }
        return x;
    }

    private static void p28ThereAreTwelve() {
        refusedIn("28: the thirteenth", ThoughtBoundsTest::twelveDays, x -> x.earn(1));
        ArcadePoles x = twelveDays();
        due.is("28: none is then", x.earn(-1000), 0);
        due.is("29: none", x.earned(0), -10000);
        due.is("28: anew", x.earn(-1), 1);
    }

    private static void p29NoneTold() {
        ArcadePoles x = new ArcadePoles();
        for (int what : new int[] {MIN, -1, 0, 1, 2, MAX}) {
            due.is("29: none told, what " + what, x.earned(what), -10000);
        }
        x.earn(5);
        for (int what : new int[] {MIN, -1, 2, MAX}) {
            due.is("29: what " + what, x.earned(what), -10000);
        }
    }

    private static void p29OneAtLeast() {
        ArcadePoles x = new ArcadePoles();
        x.earn(-99);
        due.is("29: one alone", x.earned(0), -99);
        due.is("29: is the first", x.earned(1), 0);
        x.earn(-98);
        due.is("29: the lesser loss", x.earned(0), -98);
        due.is("29: is the second", x.earned(1), 1);
        x.earn(0);
        due.is("29: nothing is more", x.earned(0), 0);
        due.is("29: on the third", x.earned(1), 2);
    }

    private static void p29TheLeastFirstDay() {
        ArcadePoles x = new ArcadePoles();
        for (int v : new int[] {5, -5, 5, 0, -1, 1}) {
            x.earn(v);
        }
        due.is("29: the most", x.earned(0), 5);
        due.is("29: from day 0, not from day 2", x.earned(1), 0);
        x.earn(-1000);
        for (int v : new int[] {-1, 0, 5}) {
            x.earn(v);
        }
        due.is("29: with a day of nothing ahead", x.earned(1), 1);
    }

    private static void p29Twelve() {
        ArcadePoles x = new ArcadePoles();
        for (int i = 0; i < 11; i++) {
            x.earn(-99);
        }
        x.earn(99);
        due.is("29: the twelfth alone", x.earned(0), 99);
        due.is("29: its day", x.earned(1), 11);
    }

    private static void p30OneCantBe() {
        ArcadePoles x = new ArcadePoles();
        for (int what = 0; what < 2; what++) {
            for (int number : new int[] {MIN, -1, 1000000000, MAX}) {
                due.is("30: number " + number, x.written(number, 0, what), NONE);
            }
            for (int check : new int[] {MIN, -1, 10, MAX}) {
                due.is("30: check " + check, x.written(5, check, what), NONE);
            }
        }
        for (int what : new int[] {MIN, -1, 2, MAX}) {
            due.is("30: what " + what, x.written(5, 9, what), NONE);
        }
    }

    private static void p30Edges() {
        ArcadePoles x = new ArcadePoles();
        due.is("30: 0 with 0", x.written(0, 0, 0), 1);
        due.is("30: 0 with 9", x.written(0, 9, 0), 0);
        due.is("30: which for 0", x.written(0, 5, 1), 0);
        int[] which = {0, 8, 6, 4, 2, 9, 7, 5, 3, 1};
        for (int digit = 0; digit < 10; digit++) {
            due.is("30: which for " + digit, x.written(digit, 0, 1), which[digit]);
            due.is("30: right for " + digit, x.written(digit, which[digit], 0), 1);
            due.is("30: which for " + digit + "0", x.written(10 * digit, 0, 1), (10 - digit) % 10);
            due.is("30: which in the ninth place", x.written(100000000 * digit, 0, 1), which[digit]);
        }
        due.is("30: the greatest", x.written(999999999, 9, 0), 1);
        due.is("30: which for the greatest", x.written(999999999, 0, 1), 9);
    }

    private static void p31OneCantBe() {
        ArcadePoles x = new ArcadePoles();
        for (int y : new int[] {MIN, -1, 0, 4000, MAX}) {
            for (int what : new int[] {0, 1, 101}) {
                due.is("31: y " + y + ", what " + what, x.year(y, what), NONE);
            }
        }
        for (int what : new int[] {MIN, -1, 2, 16, 99, 100, 116, MAX}) {
            due.is("31: of 1, what " + what, x.year(1, what), NONE);
        }
        due.is("31: no letter 9 of 3999", x.year(3999, 10), NONE);
        due.is("31: no letter 15 of 3888", x.year(3888, 16), NONE);
    }

    private static void p31Edges() {
        ArcadePoles x = new ArcadePoles();
        due.is("31: 1 is I", x.year(1, 0) * 10 + x.year(1, 1), 10);
        due.is("31: 3999 has nine", x.year(3999, 0), 9);
        due.is("31: its first", x.year(3999, 1), 6);
        due.is("31: its last is X", x.year(3999, 9), 2);
        due.is("31: 3888 has fifteen", x.year(3888, 0), 15);
        due.is("31: its last is I", x.year(3888, 15), 0);
        int[] letters = {0, 1, 2, 3, 2, 1, 2, 3, 4, 2};
        for (int digit = 1; digit < 10; digit++) {
            due.is("31: letters of " + digit, x.year(digit, 0), letters[digit]);
            due.is("31: letters of " + digit + "0", x.year(10 * digit, 0), letters[digit]);
            due.is("31: letters of " + digit + "00", x.year(100 * digit, 0), letters[digit]);
        }
        for (int y = 1000; y <= 3000; y += 1000) {
            due.is("31: letters of " + y, x.year(y, 0), y / 1000);
        }
        due.is("31: of 1 .. 1 one letter", x.year(1, 101), 1);
        due.is("31: of 1 .. 1 two letters", x.year(1, 102), 0);
        due.is("31: of 1 .. 3999 one letter", x.year(3999, 101), 7);
        due.is("31: y, too", x.year(3888, 115), 1);
        due.is("31: one less", x.year(3887, 115), 0);
        due.is("31: 1000, too", x.year(1000, 101), 7);
        due.is("31: not 1000", x.year(999, 101), 6);
        int all = 0;
        for (int k = 1; k <= 15; k++) {
            all += x.year(3999, 100 + k);
        }
        due.is("31: all have 1 to 15", all, 3999);
    }

    private static void p32OneCantBe() {
        for (int v : new int[] {MIN, -2, 0, 100, MAX}) {
            refused("32: price " + v, x -> x.price(v));
        }
        ArcadePoles x = new ArcadePoles();
        due.is("32: the least", x.price(1), 1);
        due.is("32: the greatest", x.price(99), 2);
        due.is("33: 100", x.sums(100), 1);
    }

    private static ArcadePoles tenPrices() {
        ArcadePoles x = Refusal.filled();
        for (int i = 4; i <= 10; i++) {
            due.is("32: price " + i, x.price(i), i);
        }
        return x;
    }

    private static void p32ThereAreTen() {
        refusedIn("32: the eleventh", ThoughtBoundsTest::tenPrices, x -> x.price(1));
        ArcadePoles x = tenPrices();
        due.is("32: none is then", x.price(NONE), 0);
        due.is("33: no couples", x.sums(5), 0);
        due.is("33: no threes", x.sums(NONE), 0);
        due.is("32: anew", x.price(5), 1);
    }

    private static void p33OneCantBe() {
        ArcadePoles x = tenPrices();
        for (int s : new int[] {MIN, -2, 199, MAX}) {
            due.is("33: s " + s, x.sums(s), NONE);
        }
        due.is("33: s 0", x.sums(0), 0);
        due.is("33: s 198", x.sums(198), 0);
    }

    private static void p33Edges() {
        ArcadePoles x = new ArcadePoles();
        due.is("33: none told", x.sums(0), 0);
        due.is("33: none told, threes", x.sums(NONE), 0);
        x.price(1);
        due.is("33: one is no couple", x.sums(2), 0);
        x.price(1);
        due.is("33: the least couple", x.sums(2), 1);
        due.is("33: two are no three", x.sums(NONE), 0);
        x.price(2);
        due.is("33: the least three", x.sums(NONE), 1);
        x.price(NONE);
        x.price(99);
        x.price(99);
        due.is("33: the greatest couple", x.sums(198), 1);
        x.price(99);
        due.is("33: no three of these", x.sums(NONE), 0);
    }

    private static void p33ToldAlike() {
        ArcadePoles x = new ArcadePoles();
        for (int i = 0; i < 10; i++) {
            x.price(i < 5 ? 40 : 80);
        }
        due.is("33: each by itself", x.sums(80), 10);
        due.is("33: mixed ones", x.sums(120), 25);
        due.is("33: ten couples of five, five sums each", x.sums(NONE), 50);
    }

    private static void p34OneCantBe() {
        ArcadePoles x = new ArcadePoles();
        for (int n : new int[] {MIN, -1, 31, MAX}) {
            due.is("34: n " + n, x.waltz(n), NONE);
        }
    }

    /** Compared with rows that are danced out one by one. */
    private static void p34Edges() {
        ArcadePoles x = new ArcadePoles();
        due.is("34: 0", x.waltz(0), 1);
        for (int n = 1; n <= 30; n++) {
            due.is("34: " + n, x.waltz(n), danced(n, 0));
        }
    }

    private static int danced(int left, int last) {
        if (left == 0) {
            return 1;
        }
        int all = 0;
        for (int step = 1; step <= Math.min(3, left); step++) {
            all += step == last ? 0 : danced(left - step, step);
        }
        return all;
    }

    private static void p36OneCantBe() {
        for (int v : new int[] {MIN, -2, 100, MAX}) {
            refused("36: shutter " + v, x -> x.shutter(v));
        }
        ArcadePoles x = new ArcadePoles();
        due.is("36: the least", x.shutter(0), 1);
        due.is("36: the greatest", x.shutter(99), 2);
        due.is("37: by 94", x.lifted(), 94);
    }

    private static ArcadePoles eightShutters() {
        ArcadePoles x = Refusal.filled();
        for (int i = 3; i <= 8; i++) {
            due.is("36: shutter " + i, x.shutter(50), i);
        }
        return x;
    }

    private static void p36ThereAreEight() {
        refusedIn("36: the ninth", ThoughtBoundsTest::eightShutters, x -> x.shutter(1));
        ArcadePoles x = eightShutters();
        due.is("36: none is then", x.shutter(NONE), 0);
        due.is("37: none", x.lifted(), 0);
        due.is("36: anew", x.shutter(5), 1);
    }

    private static void p37NoneAndOne() {
        ArcadePoles x = new ArcadePoles();
        due.is("37: none", x.lifted(), 0);
        x.shutter(99);
        due.is("37: one", x.lifted(), 0);
    }

    private static void p37FiveAndSix() {
        for (int more = 4; more <= 7; more++) {
            ArcadePoles x = new ArcadePoles();
            x.shutter(10);
            x.shutter(10 + more);
            due.is("37: above by " + more, x.lifted(), Math.max(0, more - 5));
            x.shutter(NONE);
            x.shutter(10 + more);
            x.shutter(10);
            due.is("37: below by " + more, x.lifted(), Math.max(0, more - 5));
        }
    }

    private static void p37Steepest() {
        ArcadePoles x = new ArcadePoles();
        for (int i = 0; i < 8; i++) {
            x.shutter(i == 7 ? 99 : 0);
        }
        due.is("37: up to the last", x.lifted(), 94 + 89 + 84 + 79 + 74 + 69 + 64);
        x.shutter(NONE);
        for (int i = 0; i < 8; i++) {
            x.shutter(i % 2 == 0 ? 99 : 0);
        }
        due.is("37: up and down", x.lifted(), 4 * 94);
    }

    private static void isGame(int[] goods, int which, int howMany) {
        ArcadePoles x = new ArcadePoles();
        for (int g : goods) {
            x.shop(g, 1);
        }
        String of = java.util.Arrays.toString(goods);
        due.is("38: from which of " + of, x.game(0), which);
        due.is("38: how many of " + of, x.game(1), howMany);
    }

    private static void p38AnotherWhat() {
        ArcadePoles x = Refusal.filled();
        for (int what : new int[] {MIN, -1, 2, MAX}) {
            due.is("38: what " + what, x.game(what), NONE);
        }
    }

    private static void p38NoGoods() {
        isGame(new int[] {}, NONE, NONE);
        isGame(new int[] {0}, NONE, NONE);
        isGame(new int[12], NONE, NONE);
    }

    private static void p38OnesAlone() {
        isGame(new int[] {1}, NONE, NONE);
        isGame(new int[] {1, 1}, 0, 1);
        isGame(new int[] {0, 1, 1}, 1, 1);
        isGame(new int[] {1, 1, 1}, NONE, NONE);
        isGame(new int[] {1, 1, 1, 1, 1, 1, 1, 1, 1, 1, 1, 1}, 0, 1);
        isGame(new int[] {1, 1, 1, 1, 1, 1, 1, 1, 1, 1, 1}, NONE, NONE);
    }

    private static void p38TheLastBigOne() {
        isGame(new int[] {2}, 0, 1);
        isGame(new int[] {99}, 0, 98);
        isGame(new int[] {99, 1}, 0, 99);
        isGame(new int[] {1, 99}, 1, 99);
        isGame(new int[] {1, 99, 1}, 1, 98);
        isGame(new int[] {2, 2}, NONE, NONE);
        isGame(new int[] {99, 99}, NONE, NONE);
    }

    private static void p38LeastAndFewest() {
        isGame(new int[] {3, 3, 3}, 0, 3);
        isGame(new int[] {5, 4}, 0, 1);
        isGame(new int[] {4, 5}, 1, 1);
        isGame(new int[] {7, 7, 99}, 2, 99);
    }

    private static void p38TwelveShops() {
        isGame(new int[] {0, 0, 0, 0, 0, 0, 0, 0, 0, 0, 0, 99}, 11, 98);
        isGame(new int[] {64, 32, 16, 8, 4, 2, 1, 0, 0, 0, 0, 99}, 2, 4);
        isGame(new int[] {99, 99, 98, 98, 50, 50, 1, 1, 7, 7, 3, 3}, NONE, NONE);
    }

    private static final int QUESTIONS = 30;

    private static int question(ArcadePoles x, int which) {
        int what = which % 2;
        switch (which / 2) {
            case 0: return x.pays(151, what);
            case 1: return x.served(what);
            case 2: return x.threads(what);
            case 3: return x.earned(what);
            case 4: return x.lamps(400 + 100 * what, 500, NONE);
            case 5: return x.ring(100 - what, 7, 98);
            case 6: return x.waltz(29 + what);
            case 7: return x.sums(5 - 6 * what);
            case 8: return x.tramp(what, 0);
            case 9: return x.knows(what - 1, 1);
            case 10: return x.cheaply(what * 10);
            case 11: return x.goes(59 + what, what);
            case 12: return x.game(what);
            case 13: return x.written(987654321, 3, what);
            default: return x.year(3887 + what, 115 * what);
        }
    }

    /** Nothing that is thought of stays: what is asked behind anything else is answered as if it were asked first. */
    private static void oneBehindAnother() {
        for (int second = 0; second < QUESTIONS; second++) {
            int alone = question(Refusal.filled(), second);
            for (int first = 0; first < QUESTIONS; first++) {
                ArcadePoles x = Refusal.filled();
                question(x, first);
                due.is("T4: question " + second + " behind " + first, question(x, second), alone);
            }
        }
    }
}
