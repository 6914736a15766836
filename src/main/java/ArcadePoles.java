import java.util.Arrays;

/**
 * An arcade whose shops are shut by whoever bought last there.
 *
 * Every row that a call needs is made here once, by the constructor, and used again: no call makes an object.
 */
public final class ArcadePoles {
    public static final int NONE = -1;

    private static final int MOST_SHOPS = 12;
    private static final int MOST_CUSTOMERS = 18;
    private static final int MOST_GOODS = 99;
    private static final int MOST_PRICE = 99;
    private static final int MOST_PURSE = 9999;
    private static final int MOST_POLITE = 9;
    private static final int EVENING = 11;
    private static final int HOURS_OF_DAY = 12;
    private static final int MOST_HOURS = 60;
    private static final int LATEST_DAY = 9990;

    private static final int LAW = 0;
    private static final int ROUNDS = 1;
    private static final int CALENDAR = 2;
    private static final int ARCADE = 3;
    private static final int MOST_LINES = 16;
    private static final int CELLS = 4;
    private static final int TAPE_ROOM = 400;

    private static final int PUSHED = 1;
    private static final int AFTER_YOU = 2;
    private static final int A_POLE = 3;
    private static final int STAYED_OPEN = 4;
    private static final int BOOK_LINES = 150;
    private static final int BOOK_CELLS = 5;

    // The KEYWORDS of all texts: one that belongs to another text can stand nowhere, so one row serves them all.
    private static final String WORDS = "buys yields costs purse polite goods price till nights poles crowd hour bought day when or and not customer at in out on stock give push shop by ";
    private static final String SIGNS = ";+-*/()<=>";
    private static final int NUMBER = 256;
    private static final int END_OF_TEXT = 257;
    private static final int UNKNOWN = 258;
    private static final int FIRST_WORD = 300;
    private static final int BUYS = 300;
    private static final int YIELDS = 301;
    private static final int COSTS = 302;
    private static final int PURSE = 303;
    private static final int PRICE = 306;
    private static final int DAY = 313;
    private static final int WHEN = 314;
    private static final int OR = 315;
    private static final int AND = 316;
    private static final int NOT = 317;
    private static final int CUSTOMER = 318;
    private static final int AT = 319;
    private static final int IN = 320;
    private static final int OUT = 321;
    private static final int ON = 322;
    private static final int STOCK = 323;
    private static final int GIVE = 324;
    private static final int PUSH = 325;
    private static final int SHOP = 326;
    private static final int BY = 327;

    private static final int OP_NUMBER = 0;
    private static final int OP_WORD = 1;
    private static final int OP_PLUS = 2;
    private static final int OP_MINUS = 3;
    private static final int OP_TIMES = 4;
    private static final int OP_PART = 5;
    private static final int OP_LESS = 6;
    private static final int OP_ALIKE = 7;
    private static final int OP_MORE = 8;
    private static final int OP_NOT = 9;
    private static final int OP_AND = 10;
    private static final int OP_OR = 11;

    private static final int EMPTIES_DAYS = NONE - 999;
    private static final int NO_EARNING = NONE - 9999;
    private static final int NO_SIGHT = NONE - 99999;

    private final World now = new World();
    private final World image = new World();
    private boolean imageTaken = false;
    private final Reader reader = new Reader();
    private final Kept kept = new Kept();
    private final Law law = new Law();
    private final Hours real = new Hours(now, law, false);
    private final Hours dreamt = new Hours(now, law, true);
    private final Arcade thought = new Arcade();
    private final Cheapest cheapest = new Cheapest();
    private final Streets streets = new Streets();
    private final Puzzles puzzles = new Puzzles();

    public ArcadePoles() {
    }

    public int state(int v) {
        int was = now.arcade.draws;
        now.arcade.draws = v;
        kept.forget();
        return was;
    }

    public int shop(int goods, int price) {
        if (!within(goods, 0, MOST_GOODS) || !within(price, 1, MOST_PRICE)) {
            return NONE;
        }
        int number = now.arcade.addShop(goods, price);
        if (number != NONE) {
            kept.forget();
        }
        return number;
    }

    public int customer(int purse, int polite) {
        if (!within(purse, 0, MOST_PURSE) || !within(polite, 0, MOST_POLITE)) {
            return NONE;
        }
        int number = now.arcade.addCustomer(purse, polite);
        if (number != NONE) {
            kept.forget();
        }
        return number;
    }

    public boolean set(int what, int who, int v) {
        Arcade arcade = now.arcade;
        if (what == 0 && arcade.isShop(who) && within(v, 1, MOST_PRICE)) {
            arcade.price[who] = v;
        } else if (what == 1 && arcade.isCustomer(who) && within(v, 0, MOST_PURSE)) {
            arcade.purse[who] = v;
        } else if (what == 2 && arcade.isCustomer(who) && within(v, 0, MOST_POLITE)) {
            arcade.polite[who] = v;
        } else {
            return false;
        }
        kept.forget();
        return true;
    }

    public boolean act(int what, int who, int v) {
        switch (what) {
            case 0:
                return goIn(who, v);
            case 1:
                return goOut(who);
            case 2:
                return buyByHand(who);
            case 3:
                return stock(who, v);
            default:
                return false;
        }
    }

    private boolean goIn(int customer, int shop) {
        Arcade arcade = now.arcade;
        if (!arcade.isCustomer(customer) || !arcade.isOpen(shop) || arcade.in[customer] == shop) {
            return false;
        }
        kept.keep(now);
        arcade.in[customer] = shop;
        return true;
    }

    private boolean goOut(int customer) {
        Arcade arcade = now.arcade;
        if (!arcade.isCustomer(customer) || arcade.in[customer] == NONE) {
            return false;
        }
        kept.keep(now);
        arcade.in[customer] = NONE;
        return true;
    }

    private boolean buyByHand(int customer) {
        int cost = real.payable(now.arcade, customer);
        if (cost == NONE) {
            return false;
        }
        kept.keep(now);
        real.sell(now.arcade, customer, cost);
        return true;
    }

    private boolean stock(int shop, int goods) {
        Arcade arcade = now.arcade;
        if (!arcade.isShop(shop) || !within(goods, 0, MOST_GOODS)) {
            return false;
        }
        kept.keep(now);
        arcade.goods[shop] = goods;
        return true;
    }

    public int hours(int n) {
        Arcade arcade = now.arcade;
        if (!within(n, 1, MOST_HOURS) || arcade.day + (arcade.hour + n) / HOURS_OF_DAY > LATEST_DAY) {
            return NONE;
        }
        int things = 0;
        for (int i = 0; i < n; i++) {
            kept.keep(now);
            things += real.pass(arcade);
        }
        return things;
    }

    public int feed(int a, int b, int c, int d, int e) {
        if (!reader.hasRoom(20)) {
            return NONE;
        }
        reader.takeIn(a);
        reader.takeIn(b);
        reader.takeIn(c);
        reader.takeIn(d);
        reader.takeIn(e);
        return reader.length;
    }

    public boolean end(int n) {
        if (!within(n, 0, reader.length)) {
            return false;
        }
        reader.length = n;
        return true;
    }

    public int text(int k) {
        Text told = now.textOf(k);
        if (told == null) {
            reader.drop();
            return NONE;
        }
        if (!reader.reads(k, now.arcade)) {
            return NONE;
        }
        told.copyFrom(reader.out);
        if (k == ROUNDS || k == CALENDAR) {
            kept.forget();
        }
        return told.lines;
    }

    public int fault(int what) {
        if (what == 0) {
            return reader.fault;
        }
        return what == 1 ? reader.place : NONE;
    }

    public int of(int shop, int what) {
        Arcade arcade = now.arcade;
        if (!arcade.isShop(shop)) {
            return NONE - 1;
        }
        if (arcade.isShop(what - 10)) {
            return Streets.oneLine(now.lanes, shop, what - 10);
        }
        switch (what) {
            case 0:
                return arcade.goods[shop];
            case 1:
                return arcade.price[shop];
            case 2:
                return arcade.till[shop];
            case 3:
                return arcade.open[shop];
            case 4:
                return arcade.last[shop];
            case 5:
                return arcade.before[shop];
            case 6:
                return arcade.nights[shop];
            case 7:
                return arcade.inside(shop);
            default:
                return NONE - 1;
        }
    }

    public int who(int customer, int what) {
        Arcade arcade = now.arcade;
        if (!arcade.isCustomer(customer)) {
            return NONE - 1;
        }
        if (arcade.isShop(what - 10)) {
            return law.asked(now.law, arcade, BUYS, customer, what - 10);
        }
        if (arcade.isShop(what - 30)) {
            return law.asked(now.law, arcade, YIELDS, customer, what - 30);
        }
        if (arcade.isShop(what - 50)) {
            return law.asked(now.law, arcade, COSTS, customer, what - 50);
        }
        switch (what) {
            case 0:
                return arcade.purse[customer];
            case 1:
                return arcade.polite[customer];
            case 2:
                return arcade.in[customer];
            case 3:
                return arcade.poles[customer];
            case 4:
                return arcade.bought[customer];
            default:
                return NONE - 1;
        }
    }

    public int book(int i, int what) {
        if (!within(i, 0, now.bookLines - 1) || !within(what, 0, BOOK_CELLS - 1)) {
            return NONE;
        }
        return now.book[i * BOOK_CELLS + what];
    }

    public int goes(int n, int what) {
        if (!within(n, 1, MOST_HOURS) || !within(what, 0, 3)) {
            return NONE;
        }
        thought.copyFrom(now.arcade);
        for (int i = 0; i < n; i++) {
            dreamt.pass(thought);
        }
        return thought.together(what);
    }

    public int cheaply(int what) {
        if (what != 0 && !within(what, 10, 10 + Cheapest.SHOPS - 1)) {
            return NONE;
        }
        cheapest.find(now.arcade, now.law, law);
        return what == 0 ? cheapest.cost() : cheapest.whom(what - 10);
    }

    public int tramp(int a, int what) {
        if (!now.arcade.isShop(a) || !within(what, 0, 1)) {
            return NONE;
        }
        streets.walk(now.lanes, now.arcade.shops, a);
        return what == 0 ? streets.fewest : streets.lastCome;
    }

    public int coin(int v) {
        Row coins = now.coins;
        if (v != NONE && coins.has(v) && !coins.isFull()) {
            return coins.count;
        }
        return tell(coins, v, NONE, 1, 50);
    }

    public int pays(int p, int what) {
        if (!within(p, 0, Puzzles.MOST_PAID)) {
            return NONE;
        }
        if (what == 0) {
            return puzzles.fewestHands(now.coins, p);
        }
        return what == 1 ? puzzles.waysToGive(now.coins, p) : NONE;
    }

    public boolean told(int a, int b, int c, int d) {
        if (!within(a, -99, 99) || !within(b, -99, 99) || !within(c, -99, 99) || !within(d, -99, 99)) {
            return false;
        }
        now.stakes.count = 0;
        now.stakes.add(a);
        now.stakes.add(b);
        now.stakes.add(c);
        now.stakes.add(d);
        return true;
    }

    public int after(int what) {
        if (!within(what, 0, 3)) {
            return NO_EARNING;
        }
        return Puzzles.afterYou(now.stakes.values, what);
    }

    public int ring(int n, int k, int i) {
        if (!within(n, 1, 100) || !within(k, 1, 100) || !within(i, 0, n - 1)) {
            return NONE;
        }
        return puzzles.whoLeaves(n, k, i);
    }

    public int errand(int needs, int due) {
        if (needs == NONE) {
            now.dues.count = 0;
        } else if (!within(due, 0, 99)) {
            return NONE;
        }
        int count = tell(now.needs, needs, NONE, 1, 20);
        if (count > 0) {
            now.dues.add(due);
        }
        return count;
    }

    public int served(int what) {
        if (!within(what, 0, 1)) {
            return NONE;
        }
        puzzles.sortByDue(now.dues);
        return what == 0 ? puzzles.mostServed(now.needs, now.dues) : puzzles.late(now.needs, now.dues);
    }

    public int lamps(int n, int m, int j) {
        if (!within(n, 1, Puzzles.MOST_LAMPS) || !within(m, 0, Puzzles.MOST_LAMPS)) {
            return NONE;
        }
        if (j != NONE && !within(j, 1, n)) {
            return NONE;
        }
        return puzzles.burning(n, m, j);
    }

    public int thread(int v) {
        return tell(now.lengths, v, NONE, 1, 99);
    }

    public int threads(int what) {
        if (what == 0) {
            return puzzles.joinedFreely(now.lengths);
        }
        return what == 1 ? puzzles.joinedSideBySide(now.lengths) : NONE;
    }

    public int earn(int v) {
        return tell(now.days, v, EMPTIES_DAYS, -99, 99);
    }

    public int earned(int what) {
        if (now.days.count == 0 || !within(what, 0, 1)) {
            return NO_EARNING;
        }
        return Puzzles.bestDays(now.days, what == 1);
    }

    public int written(int number, int check, int what) {
        if (!within(number, 0, 999999999) || !within(check, 0, 9)) {
            return NONE;
        }
        int digit = Puzzles.rightCheck(number);
        if (what == 0) {
            return digit == check ? 1 : 0;
        }
        return what == 1 ? digit : NONE;
    }

    public int year(int y, int what) {
        if (!within(y, 1, 3999)) {
            return NONE;
        }
        if (what == 0) {
            return Puzzles.letters(y);
        }
        if (within(what, 101, 115)) {
            return Puzzles.yearsOfLetters(y, what - 100);
        }
        return Puzzles.letterAt(y, what - 1);
    }

    public int price(int v) {
        return tell(now.prices, v, NONE, 1, 99);
    }

    public int sums(int s) {
        if (s == NONE) {
            return Puzzles.threes(now.prices);
        }
        return within(s, 0, 198) ? Puzzles.couples(now.prices, s) : NONE;
    }

    public int waltz(int n) {
        return within(n, 0, Puzzles.MOST_STEPS) ? puzzles.dances(n) : NONE;
    }

    public int knows(int a, int k) {
        int shops = now.arcade.shops;
        if (a == NONE) {
            return streets.wide(now.lanes, shops);
        }
        if (!now.arcade.isShop(a) || !within(k, 0, 11)) {
            return NONE;
        }
        return streets.howMany(now.lanes, shops, a, k);
    }

    public int shutter(int v) {
        return tell(now.heights, v, NONE, 0, 99);
    }

    public int lifted() {
        return Puzzles.lifts(now.heights);
    }

    public int game(int what) {
        if (!within(what, 0, 1)) {
            return NONE;
        }
        return Puzzles.goodMove(now.arcade.goods, now.arcade.shops, what == 1);
    }

    public boolean undo() {
        return kept.back(now);
    }

    public boolean image(boolean taken) {
        if (taken) {
            image.copyFrom(now);
            imageTaken = true;
            return true;
        }
        if (!imageTaken) {
            return false;
        }
        now.copyFrom(image);
        kept.forget();
        return true;
    }

    public int look(int what) {
        Arcade arcade = now.arcade;
        switch (what) {
            case 0:
                return arcade.shops;
            case 1:
                return arcade.customers;
            case 2:
                return arcade.hour;
            case 3:
                return arcade.day;
            case 4:
                return arcade.latest();
            case 5:
                return arcade.openSet();
            case 6:
                return now.bookLines;
            case 7:
                return arcade.draws;
            case 8:
                return now.law.lines;
            case 9:
                return now.rounds.lines;
            case 10:
                return now.calendar.lines;
            case 11:
                return now.lanes.lines;
            case 12:
                return kept.count;
            default:
                return NO_SIGHT;
        }
    }

    private static boolean within(int v, int low, int high) {
        return v >= low && v <= high;
    }

    /** What all rows for thought have in common: one number empties the row, one out of bounds is refused. */
    private static int tell(Row row, int v, int empties, int low, int high) {
        if (v == empties) {
            row.count = 0;
            return 0;
        }
        return within(v, low, high) ? row.add(v) : NONE;
    }

    /** Numbers as they were told, up to a room. */
    private static final class Row {
        final int[] values;
        int count = 0;

        Row(int room) {
            values = new int[room];
        }

        boolean isFull() {
            return count >= values.length;
        }

        int add(int v) {
            if (count < 0 || isFull()) {
                return NONE;
            }
            values[count] = v;
            count++;
            return count;
        }

        boolean has(int v) {
            for (int i = 0; i < count; i++) {
                if (values[i] == v) {
                    return true;
                }
            }
            return false;
        }

        void copyFrom(Row other) {
            copyInts(other.values, values);
            count = other.count;
        }
    }

    private static void copyInts(int[] from, int[] to) {
        System.arraycopy(from, 0, to, 0, Math.min(from.length, to.length));
    }

    /** The lines of a TEXT: cells of numbers, and for THE LAW the steps that its expressions are reckoned by. */
    private static final class Text {
        final int[] cells = new int[MOST_LINES * CELLS];
        final int[] code = new int[TAPE_ROOM];
        int lines = 0;
        int codeLength = 0;

        void clear() {
            lines = 0;
            codeLength = 0;
        }

        int cell(int line, int i) {
            int at = line * CELLS + i;
            return within(at, 0, cells.length - 1) ? cells[at] : NONE;
        }

        void put(int i, int v) {
            int at = lines * CELLS + i;
            if (within(at, 0, cells.length - 1)) {
                cells[at] = v;
            }
        }

        void emit(int op, int operand) {
            if (codeLength >= 0 && codeLength < code.length) {
                code[codeLength] = operand * 16 + op;
                codeLength++;
            }
        }

        void copyFrom(Text other) {
            copyInts(other.cells, cells);
            copyInts(other.code, code);
            lines = other.lines;
            codeLength = other.codeLength;
        }
    }

    /** SHOPS, CUSTOMERS, the time and STATE: all that an hour changes but THE BOOK. */
    private static final class Arcade {
        int shops = 0;
        int customers = 0;
        int hour = 0;
        int day = 0;
        int draws = 0;
        final int[] goods = new int[MOST_SHOPS];
        final int[] price = new int[MOST_SHOPS];
        final int[] till = new int[MOST_SHOPS];
        final int[] open = new int[MOST_SHOPS];
        final int[] last = new int[MOST_SHOPS];
        final int[] before = new int[MOST_SHOPS];
        final int[] nights = new int[MOST_SHOPS];
        final int[] purse = new int[MOST_CUSTOMERS];
        final int[] polite = new int[MOST_CUSTOMERS];
        final int[] in = new int[MOST_CUSTOMERS];
        final int[] poles = new int[MOST_CUSTOMERS];
        final int[] bought = new int[MOST_CUSTOMERS];

        int addShop(int itsGoods, int itsPrice) {
            if (!within(shops, 0, MOST_SHOPS - 1)) {
                return NONE;
            }
            int s = shops;
            goods[s] = itsGoods;
            price[s] = itsPrice;
            till[s] = 0;
            nights[s] = 0;
            opens(s);
            shops++;
            return s;
        }

        int addCustomer(int hisPurse, int howPolite) {
            if (!within(customers, 0, MOST_CUSTOMERS - 1)) {
                return NONE;
            }
            int c = customers;
            purse[c] = hisPurse;
            polite[c] = howPolite;
            in[c] = NONE;
            poles[c] = 0;
            bought[c] = 0;
            customers++;
            return c;
        }

        boolean isShop(int s) {
            return s >= 0 && s < shops;
        }

        boolean isCustomer(int c) {
            return c >= 0 && c < customers;
        }

        boolean isOpen(int s) {
            return isShop(s) && open[s] == 1;
        }

        void opens(int s) {
            open[s] = 1;
            last[s] = NONE;
            before[s] = NONE;
        }

        void becomesLast(int c, int s) {
            if (last[s] != c) {
                before[s] = last[s];
            }
            last[s] = c;
        }

        int draw(int m) {
            draws = 1664525 * draws + 1013904223;
            return m < 1 ? 0 : (draws >>> 8) % m;
        }

        int crowd(int s) {
            return Integer.bitCount(inside(s));
        }

        int inside(int s) {
            int found = 0;
            for (int c = 0; c < customers; c++) {
                if (in[c] == s) {
                    found |= 1 << c;
                }
            }
            return found;
        }

        int openSet() {
            int found = 0;
            for (int s = 0; s < shops; s++) {
                found |= open[s] << s;
            }
            return found;
        }

        int latest() {
            int found = NONE;
            for (int s = 0; s < shops; s++) {
                if (found == NONE || nights[s] > nights[found]) {
                    found = s;
                }
            }
            return found;
        }

        int together(int what) {
            switch (what) {
                case 0:
                    return sum(till, shops);
                case 1:
                    return sum(goods, shops);
                case 2:
                    return sum(poles, customers);
                default:
                    return shops - sum(open, shops);
            }
        }

        private static int sum(int[] row, int count) {
            int all = 0;
            for (int i = 0; i < count && i < row.length; i++) {
                all += row[i];
            }
            return all;
        }

        void copyFrom(Arcade other) {
            shops = other.shops;
            customers = other.customers;
            hour = other.hour;
            day = other.day;
            draws = other.draws;
            copyInts(other.goods, goods);
            copyInts(other.price, price);
            copyInts(other.till, till);
            copyInts(other.open, open);
            copyInts(other.last, last);
            copyInts(other.before, before);
            copyInts(other.nights, nights);
            copyInts(other.purse, purse);
            copyInts(other.polite, polite);
            copyInts(other.in, in);
            copyInts(other.poles, poles);
            copyInts(other.bought, bought);
        }
    }

    /** All that THE IMAGE holds: what is, and what was told. */
    private static final class World {
        final Arcade arcade = new Arcade();
        final int[] book = new int[BOOK_LINES * BOOK_CELLS];
        int bookLines = 0;
        final Text law = new Text();
        final Text rounds = new Text();
        final Text calendar = new Text();
        final Text lanes = new Text();
        final Row coins = new Row(6);
        final Row stakes = new Row(4);
        final Row needs = new Row(10);
        final Row dues = new Row(10);
        final Row lengths = new Row(8);
        final Row days = new Row(12);
        final Row prices = new Row(10);
        final Row heights = new Row(8);

        Text textOf(int k) {
            switch (k) {
                case LAW:
                    return law;
                case ROUNDS:
                    return rounds;
                case CALENDAR:
                    return calendar;
                case ARCADE:
                    return lanes;
                default:
                    return null;
            }
        }

        void write(int what, int who, int howMuch) {
            if (!within(bookLines, 0, BOOK_LINES - 1)) {
                return;
            }
            int at = bookLines * BOOK_CELLS;
            book[at] = arcade.day;
            book[at + 1] = arcade.hour;
            book[at + 2] = what;
            book[at + 3] = who;
            book[at + 4] = howMuch;
            bookLines++;
        }

        void copyFrom(World other) {
            arcade.copyFrom(other.arcade);
            copyInts(other.book, book);
            bookLines = other.bookLines;
            law.copyFrom(other.law);
            rounds.copyFrom(other.rounds);
            calendar.copyFrom(other.calendar);
            lanes.copyFrom(other.lanes);
            coins.copyFrom(other.coins);
            stakes.copyFrom(other.stakes);
            needs.copyFrom(other.needs);
            dues.copyFrom(other.dues);
            lengths.copyFrom(other.lengths);
            days.copyFrom(other.days);
            prices.copyFrom(other.prices);
            heights.copyFrom(other.heights);
        }
    }

    /**
     * What can be undone: the arcade as it was ahead of each of the latest steps. Of THE BOOK its length is enough,
     * since lines only come behind.
     */
    private static final class Kept {
        private static final int ROOM = 6;
        private final Arcade[] arcades = new Arcade[ROOM];
        private final int[] bookLines = new int[ROOM];
        private int next = 0;
        int count = 0;

        Kept() {
            for (int i = 0; i < ROOM; i++) {
                arcades[i] = new Arcade();
            }
        }

        void forget() {
            count = 0;
        }

        void keep(World world) {
            arcades[next].copyFrom(world.arcade);
            bookLines[next] = world.bookLines;
            next = next == ROOM - 1 ? 0 : next + 1;
            count = Math.min(ROOM, count + 1);
        }

        boolean back(World world) {
            if (count < 1) {
                return false;
            }
            next = next == 0 ? ROOM - 1 : next - 1;
            count--;
            world.arcade.copyFrom(arcades[next]);
            world.bookLines = bookLines[next];
            return true;
        }
    }

    /** The TAPE, and how it is read as a TEXT, with the latest FAULT. */
    private static final class Reader {
        private static final int MOST_OPEN = 8;
        private final int[] tape = new int[TAPE_ROOM];
        int length = 0;
        int fault = 0;
        int place = NONE;
        // One token more than bytes: the end is a token too.
        private final int[] kinds = new int[TAPE_ROOM + 1];
        private final int[] starts = new int[TAPE_ROOM + 1];
        private final int[] numbers = new int[TAPE_ROOM + 1];
        private int tokens = 0;
        private int at = 0;
        private int shops = 0;
        private int customers = 0;
        // Of its own, so that a TEXT stays as it was till it is known that there is no FAULT.
        final Text out = new Text();

        boolean hasRoom(int bytes) {
            return length + bytes <= TAPE_ROOM;
        }

        void takeIn(int number) {
            for (int shift = 24; shift >= 0; shift -= 8) {
                if (within(length, 0, TAPE_ROOM - 1)) {
                    tape[length] = (number >>> shift) & 255;
                    length++;
                }
            }
        }

        void drop() {
            length = 0;
            fault = 0;
            place = NONE;
        }

        /** Whether the TAPE is a TEXT k without a FAULT; its lines are in out then. */
        boolean reads(int k, Arcade arcade) {
            shops = arcade.shops;
            customers = arcade.customers;
            out.clear();
            scan();
            drop();
            at = 0;
            boolean fine = true;
            for (int i = 0; i <= MOST_LINES && fine && kind() != END_OF_TEXT; i++) {
                fine = beginsLine(k) && (k == LAW ? lawLine() : plainLine(k)) && sign(';');
                out.lines += fine ? 1 : 0;
            }
            return fine;
        }

        private void scan() {
            tokens = 0;
            for (int i = 0; i < length; i++) {
                if (beginsToken(i)) {
                    readToken(i, runEnd(i));
                }
            }
            addToken(END_OF_TEXT, length, 0);
        }

        /** No blank, and no letter or digit that stands together with the one ahead of it. */
        private boolean beginsToken(int i) {
            int b = tape[i];
            int ahead = i > 0 ? tape[i - 1] : ' ';
            boolean blank = b == ' ' || b == '\n';
            return !blank && !(isLetter(b) && isLetter(ahead)) && !(isDigit(b) && isDigit(ahead));
        }

        private void readToken(int from, int to) {
            int b = tape[from];
            if (isLetter(b)) {
                addToken(wordKind(from, to), from, 0);
            } else if (isDigit(b)) {
                addToken(to - from <= 4 ? NUMBER : UNKNOWN, from, numberOf(from, to));
            } else {
                addToken(SIGNS.indexOf((char) b) >= 0 ? b : UNKNOWN, from, 0);
            }
        }

        private static boolean isLetter(int b) {
            return within(b, 'a', 'z') || within(b, 'A', 'Z');
        }

        private static boolean isDigit(int b) {
            return within(b, '0', '9');
        }

        /** Behind the letters or digits that stand together from here on; a sign stands alone. */
        private int runEnd(int from) {
            boolean letters = isLetter(tape[from]);
            boolean digits = isDigit(tape[from]);
            int to = from + 1;
            for (int i = to; i < length; i++) {
                if (letters && isLetter(tape[i]) || digits && isDigit(tape[i])) {
                    to = i + 1;
                } else {
                    break;
                }
            }
            return to;
        }

        private int numberOf(int from, int to) {
            int number = 0;
            for (int i = from; i < to && i < from + 4; i++) {
                number = number * 10 + tape[i] - '0';
            }
            return number;
        }

        private int wordKind(int from, int to) {
            int word = 0;
            int begins = 0;
            for (int i = 0; i < WORDS.length(); i++) {
                if (WORDS.charAt(i) == ' ') {
                    if (i - begins == to - from && isWordAt(begins, from, to)) {
                        return FIRST_WORD + word;
                    }
                    word++;
                    begins = i + 1;
                }
            }
            return UNKNOWN;
        }

        private boolean isWordAt(int begins, int from, int to) {
            for (int i = from; i < to; i++) {
                if (WORDS.charAt(begins + i - from) != tape[i]) {
                    return false;
                }
            }
            return true;
        }

        private void addToken(int kind, int start, int number) {
            if (within(tokens, 0, kinds.length - 1)) {
                kinds[tokens] = kind;
                starts[tokens] = start;
                numbers[tokens] = number;
                tokens++;
            }
        }

        private int kind() {
            return at >= 0 && at < tokens ? kinds[at] : END_OF_TEXT;
        }

        private int number() {
            return at >= 0 && at < tokens ? numbers[at] : 0;
        }

        /** A FAULT at the token that is read now. It is the first by its place, since reading stops with it. */
        private boolean wrong(int which) {
            fault = which;
            place = at >= 0 && at < tokens ? starts[at] : NONE;
            return false;
        }

        private boolean sign(int kind) {
            if (kind() != kind) {
                return wrong(1);
            }
            at++;
            return true;
        }

        private boolean numberInto(int cell, int low, int high) {
            if (kind() != NUMBER) {
                return wrong(1);
            }
            if (!within(number(), low, high)) {
                return wrong(2);
            }
            out.put(cell, number());
            at++;
            return true;
        }

        private boolean beginsLine(int k) {
            int kind = kind();
            boolean begins;
            switch (k) {
                case LAW:
                    begins = within(kind, BUYS, COSTS);
                    break;
                case ROUNDS:
                    begins = kind == CUSTOMER;
                    break;
                case CALENDAR:
                    begins = kind == ON;
                    break;
                default:
                    begins = kind == SHOP;
            }
            if (!begins) {
                return wrong(1);
            }
            if (out.lines >= MOST_LINES) {
                return wrong(3);
            }
            out.put(0, kind);
            at++;
            return true;
        }

        /** Cells: as the line tells its numbers, on CALENDAR with the KEYWORD behind the day. */
        private boolean plainLine(int k) {
            switch (k) {
                case ROUNDS:
                    return numberInto(0, 0, customers - 1) && sign(AT) && numberInto(1, 0, EVENING) && whereTo();
                case CALENDAR:
                    return numberInto(0, 0, 999) && whatOnDay();
                default:
                    return numberInto(0, 0, shops - 1) && sign(BY) && sign(SHOP) && otherShop()
                            && numberInto(2, 1, 99);
            }
        }

        private boolean whereTo() {
            if (kind() == OUT) {
                out.put(2, NONE);
                at++;
                return true;
            }
            return sign(IN) && numberInto(2, 0, shops - 1);
        }

        private boolean whatOnDay() {
            int kind = kind();
            if (kind != STOCK && kind != PRICE && kind != GIVE && kind != PUSH) {
                return wrong(1);
            }
            out.put(1, kind);
            at++;
            switch (kind) {
                case STOCK:
                    return numberInto(2, 0, shops - 1) && numberInto(3, 0, MOST_GOODS);
                case PRICE:
                    return numberInto(2, 0, shops - 1) && numberInto(3, 1, MOST_PRICE);
                case GIVE:
                    return numberInto(2, 0, customers - 1) && numberInto(3, 1, 999);
                default:
                    return numberInto(2, 0, shops - 1) && numberInto(3, 0, customers - 1);
            }
        }

        private boolean otherShop() {
            if (kind() == NUMBER && number() == out.cell(out.lines, 0)) {
                return wrong(2);
            }
            return numberInto(1, 0, shops - 1);
        }

        /** Cells: the word, where the code of E begins, where that of B does, where it ends. */
        private boolean lawLine() {
            out.put(1, out.codeLength);
            if (!expression()) {
                return false;
            }
            out.put(2, out.codeLength);
            if (kind() == WHEN) {
                at++;
                if (!conditions(0)) {
                    return false;
                }
            }
            out.put(3, out.codeLength);
            return true;
        }

        /** E with its T in one loop: a sum waits till the product behind it has been told. */
        private boolean expression() {
            if (!unit()) {
                return false;
            }
            int waits = NONE;
            for (int i = 0; i < tokens; i++) {
                int kind = kind();
                if (kind == '+' || kind == '-') {
                    emitWaiting(waits);
                    waits = kind == '+' ? OP_PLUS : OP_MINUS;
                } else if (kind != '*' && kind != '/') {
                    break;
                }
                at++;
                if (kind == '/' ? !divisor() : !unit()) {
                    return false;
                }
                if (kind == '*') {
                    out.emit(OP_TIMES, 0);
                }
            }
            emitWaiting(waits);
            return true;
        }

        private void emitWaiting(int op) {
            if (op != NONE) {
                out.emit(op, 0);
            }
        }

        private boolean divisor() {
            if (kind() != NUMBER) {
                return wrong(1);
            }
            if (number() == 0) {
                return wrong(2);
            }
            out.emit(OP_PART, number());
            at++;
            return true;
        }

        private boolean unit() {
            int kind = kind();
            if (kind == NUMBER) {
                out.emit(OP_NUMBER, number());
            } else if (within(kind, PURSE, DAY)) {
                out.emit(OP_WORD, kind - PURSE);
            } else {
                return wrong(1);
            }
            at++;
            return true;
        }

        /** B with its A in one loop: an or waits till all ands behind it have been told. */
        private boolean conditions(int open) {
            if (!condition(open)) {
                return false;
            }
            int waits = NONE;
            for (int i = 0; i < tokens; i++) {
                int kind = kind();
                if (kind == OR) {
                    emitWaiting(waits);
                    waits = OP_OR;
                } else if (kind != AND) {
                    break;
                }
                at++;
                if (!condition(open)) {
                    return false;
                }
                if (kind == AND) {
                    out.emit(OP_AND, 0);
                }
            }
            emitWaiting(waits);
            return true;
        }

        private boolean condition(int open) {
            if (kind() == NOT || kind() == '(') {
                return opened(open);
            }
            if (!expression()) {
                return false;
            }
            int kind = kind();
            if (kind != '<' && kind != '=' && kind != '>') {
                return wrong(1);
            }
            at++;
            if (!expression()) {
                return false;
            }
            out.emit(kind == '<' ? OP_LESS : kind == '=' ? OP_ALIKE : OP_MORE, 0);
            return true;
        }

        /** From a not or a ( on; so many of them are open ahead of it. */
        private boolean opened(int open) {
            if (open >= MOST_OPEN) {
                return wrong(3);
            }
            boolean denied = kind() == NOT;
            at++;
            if (!denied) {
                return conditions(open + 1) && sign(')');
            }
            if (!condition(open + 1)) {
                return false;
            }
            out.emit(OP_NOT, 0);
            return true;
        }
    }

    /** What THE LAW tells of a CUSTOMER and a SHOP. */
    private static final class Law {
        private final int[] words = new int[DAY - PURSE + 1];
        // Two may wait for each of nine levels of B, and four within a comparison.
        private final int[] stack = new int[32];

        int asked(Text law, Arcade arcade, int word, int customer, int shop) {
            if (!arcade.isCustomer(customer) || !arcade.isShop(shop)) {
                return 0;
            }
            gather(arcade, customer, shop);
            int found = untold(arcade, word, customer, shop);
            for (int line = 0; line < law.lines; line++) {
                int from = law.cell(line, 2);
                int to = law.cell(line, 3);
                if (law.cell(line, 0) == word && (from == to || reckon(law, from, to) != 0)) {
                    found = reckon(law, law.cell(line, 1), from);
                    break;
                }
            }
            return Math.max(0, Math.min(found, word == COSTS ? 999 : 1000));
        }

        private static int untold(Arcade arcade, int word, int customer, int shop) {
            if (word == BUYS) {
                return 600 - 40 * arcade.hour;
            }
            return word == YIELDS ? 100 * arcade.polite[customer] : arcade.price[shop];
        }

        /** In the order of the KEYWORDS purse to day. */
        private void gather(Arcade arcade, int customer, int shop) {
            words[0] = arcade.purse[customer];
            words[1] = arcade.polite[customer];
            words[2] = arcade.goods[shop];
            words[3] = arcade.price[shop];
            words[4] = arcade.till[shop];
            words[5] = arcade.nights[shop];
            words[6] = arcade.poles[customer];
            words[7] = arcade.crowd(shop);
            words[8] = arcade.hour;
            words[9] = arcade.bought[customer];
            words[10] = arcade.day;
        }

        /** What the code from one place to another comes to; a condition comes to 1 or 0. */
        private int reckon(Text law, int from, int to) {
            int top = 0;
            for (int i = Math.max(0, from); i < to && i < law.code.length; i++) {
                int op = law.code[i] & 15;
                int operand = law.code[i] >> 4;
                if (op == OP_NUMBER || op == OP_WORD) {
                    if (top < stack.length) {
                        stack[top] = op == OP_NUMBER ? operand : wordValue(operand);
                        top++;
                    }
                } else if (op == OP_PART || op == OP_NOT) {
                    if (top > 0) {
                        stack[top - 1] = changed(op, operand, stack[top - 1]);
                    }
                } else if (top > 1) {
                    top--;
                    stack[top - 1] = joined(op, stack[top - 1], stack[top]);
                }
            }
            return top > 0 ? stack[top - 1] : 0;
        }

        private int wordValue(int word) {
            return word >= 0 && word < words.length ? words[word] : 0;
        }

        private static int changed(int op, int operand, int v) {
            if (op == OP_NOT) {
                return 1 - v;
            }
            return operand == 0 ? 0 : v / operand;
        }

        private static int joined(int op, int left, int right) {
            switch (op) {
                case OP_PLUS:
                    return left + right;
                case OP_MINUS:
                    return left - right;
                case OP_TIMES:
                    return left * right;
                case OP_LESS:
                    return left < right ? 1 : 0;
                case OP_ALIKE:
                    return left == right ? 1 : 0;
                case OP_MORE:
                    return left > right ? 1 : 0;
                case OP_AND:
                    return left & right;
                default:
                    return left | right;
            }
        }
    }

    /** How AN HOUR goes, really (with DRAWS and THE BOOK) or in thought (with neither). */
    private static final class Hours {
        private final World world;
        private final Law law;
        private final boolean inThought;

        Hours(World world, Law law, boolean inThought) {
            this.world = world;
            this.law = law;
            this.inThought = inThought;
        }

        /** How many things were bought in it. */
        int pass(Arcade arcade) {
            if (arcade.hour == 0) {
                morning(arcade);
            }
            goRounds(arcade);
            int things = buying(arcade);
            if (arcade.hour == EVENING) {
                evening(arcade);
            } else {
                arcade.hour++;
            }
            return things;
        }

        private void morning(Arcade arcade) {
            for (int s = 0; s < arcade.shops; s++) {
                arcade.opens(s);
            }
            Text calendar = world.calendar;
            for (int line = 0; line < calendar.lines; line++) {
                if (calendar.cell(line, 0) == arcade.day) {
                    calendarLine(arcade, calendar.cell(line, 1), calendar.cell(line, 2), calendar.cell(line, 3));
                }
            }
        }

        private void calendarLine(Arcade arcade, int kind, int a, int b) {
            if (kind == GIVE) {
                if (arcade.isCustomer(a)) {
                    arcade.purse[a] = Math.min(MOST_PURSE, arcade.purse[a] + b);
                }
            } else if (!arcade.isShop(a)) {
                return;
            } else if (kind == STOCK) {
                arcade.goods[a] = b;
            } else if (kind == PRICE) {
                arcade.price[a] = b;
            } else {
                pushThread(arcade, a, b);
            }
        }

        private void pushThread(Arcade arcade, int s, int c) {
            if (arcade.goods[s] < 1 || !arcade.isCustomer(c)) {
                return;
            }
            arcade.goods[s]--;
            arcade.bought[c]++;
            arcade.becomesLast(c, s);
            note(PUSHED, c, s);
        }

        private void goRounds(Arcade arcade) {
            Text rounds = world.rounds;
            for (int line = 0; line < rounds.lines; line++) {
                int c = rounds.cell(line, 0);
                int s = rounds.cell(line, 2);
                boolean can = s == NONE || arcade.isOpen(s);
                if (rounds.cell(line, 1) == arcade.hour && can && arcade.isCustomer(c)) {
                    arcade.in[c] = s;
                }
            }
        }

        private int buying(Arcade arcade) {
            int things = 0;
            for (int c = 0; c < arcade.customers; c++) {
                int cost = payable(arcade, c);
                if (cost != NONE && comesSo(arcade, law.asked(world.law, arcade, BUYS, c, arcade.in[c]))) {
                    sell(arcade, c, cost);
                    things++;
                }
            }
            return things;
        }

        /** What a CUSTOMER would pay where he is; NONE if he can't buy there. */
        int payable(Arcade arcade, int c) {
            if (!arcade.isCustomer(c)) {
                return NONE;
            }
            int s = arcade.in[c];
            if (!arcade.isOpen(s) || arcade.goods[s] < 1) {
                return NONE;
            }
            int cost = law.asked(world.law, arcade, COSTS, c, s);
            return cost <= arcade.purse[c] ? cost : NONE;
        }

        void sell(Arcade arcade, int c, int cost) {
            int s = arcade.isCustomer(c) ? arcade.in[c] : NONE;
            if (!arcade.isShop(s)) {
                return;
            }
            arcade.goods[s]--;
            arcade.purse[c] -= cost;
            arcade.till[s] += cost;
            arcade.bought[c]++;
            arcade.becomesLast(c, s);
            note(0, c, cost);
        }

        private boolean comesSo(Arcade arcade, int likely) {
            if (inThought) {
                return likely >= 500;
            }
            return likely > 0 && arcade.draw(1000) < likely;
        }

        private void evening(Arcade arcade) {
            for (int s = 0; s < arcade.shops; s++) {
                shut(arcade, s);
            }
            for (int c = 0; c < arcade.customers; c++) {
                arcade.in[c] = NONE;
            }
            arcade.hour = 0;
            arcade.day++;
        }

        private void shut(Arcade arcade, int s) {
            int one = arcade.last[s];
            if (one != NONE && comesSo(arcade, law.asked(world.law, arcade, YIELDS, one, s))) {
                note(AFTER_YOU, one, s);
                one = arcade.before[s];
            }
            if (arcade.isCustomer(one)) {
                arcade.poles[one]++;
                arcade.open[s] = 0;
                arcade.nights[s] = 0;
                note(A_POLE, one, s);
            } else {
                arcade.nights[s]++;
                note(STAYED_OPEN, s, arcade.nights[s]);
            }
        }

        private void note(int what, int who, int howMuch) {
            if (!inThought) {
                world.write(what, who, howMuch);
            }
        }
    }

    /**
     * CHEAPLY. A way is one number: its cost ahead, behind it whom SHOP by SHOP as digits, so that the least number
     * is the least cost and of several ways the one with the least CUSTOMERS.
     */
    private static final class Cheapest {
        static final int SHOPS = 8;
        private static final long[] DIGIT = {612220032L, 34012224L, 1889568L, 104976L, 5832L, 324L, 18L, 1L};
        private static final long COST = 11019960576L;
        private static final long FAR = 1000000000000000L;
        private final long[] least = new long[1 << SHOPS];
        private final long[] weights = new long[SHOPS];
        private int wanted = 0;

        void find(Arcade arcade, Text text, Law law) {
            wanted = wantedShops(arcade);
            Arrays.fill(least, FAR);
            least[0] = 0;
            for (int c = 0; c < arcade.customers; c++) {
                for (int s = 0; s < SHOPS; s++) {
                    weights[s] = FAR;
                    if ((wanted >> s & 1) == 1) {
                        int cost = law.asked(text, arcade, COSTS, c, s);
                        weights[s] = cost <= arcade.purse[c] ? cost * COST + c * DIGIT[s] : FAR;
                    }
                }
                letChoose();
            }
        }

        private static int wantedShops(Arcade arcade) {
            int found = 0;
            for (int s = 0; s < SHOPS; s++) {
                if (arcade.isOpen(s) && arcade.goods[s] > 0) {
                    found |= 1 << s;
                }
            }
            return found;
        }

        /** One CUSTOMER more. From the greatest set down, so that he is in none of the sets that are looked up. */
        private void letChoose() {
            for (int shops = least.length - 1; shops > 0; shops--) {
                if ((shops & wanted) != shops) {
                    continue;
                }
                for (int s = 0; s < SHOPS; s++) {
                    if ((shops >> s & 1) == 1) {
                        least[shops] = Math.min(least[shops], least[shops ^ 1 << s] + weights[s]);
                    }
                }
            }
        }

        int cost() {
            return least[wanted] >= FAR ? NONE : (int) (least[wanted] / COST);
        }

        int whom(int s) {
            if (!within(s, 0, SHOPS - 1) || (wanted >> s & 1) == 0 || least[wanted] >= FAR) {
                return NONE;
            }
            return (int) (least[wanted] / DIGIT[s] % MOST_CUSTOMERS);
        }
    }

    /** Ways along ARCADE. */
    private static final class Streets {
        private static final int FAR = 1000000;
        private static final int OTHERS = MOST_SHOPS - 1;
        private final int[] away = new int[MOST_SHOPS * MOST_SHOPS];
        private final int[] others = new int[OTHERS];
        // By the set of other SHOPS that he has come to, and which of them was last.
        private final int[] walks = new int[(1 << OTHERS) * OTHERS];
        int fewest = NONE;
        int lastCome = NONE;

        /** Steps between two SHOPS by one line; NONE without one. */
        static int oneLine(Text lanes, int a, int b) {
            int found = NONE;
            for (int line = 0; line < lanes.lines; line++) {
                int from = lanes.cell(line, 0);
                int to = lanes.cell(line, 1);
                int steps = lanes.cell(line, 2);
                if ((from == a && to == b || from == b && to == a) && (found == NONE || steps < found)) {
                    found = steps;
                }
            }
            return found;
        }

        /** How far all SHOPS are from one another, in steps or in couples. */
        private void measure(Text lanes, int shops, boolean inSteps) {
            for (int a = 0; a < shops; a++) {
                for (int b = 0; b < shops; b++) {
                    int steps = oneLine(lanes, a, b);
                    int line = steps == NONE ? FAR : inSteps ? steps : 1;
                    away[a * MOST_SHOPS + b] = a == b ? 0 : line;
                }
            }
            for (int over = 0; over < shops; over++) {
                for (int a = 0; a < shops; a++) {
                    for (int b = 0; b < shops; b++) {
                        int round = distance(a, over) + distance(over, b);
                        away[a * MOST_SHOPS + b] = Math.min(distance(a, b), round);
                    }
                }
            }
        }

        private int distance(int a, int b) {
            int at = a * MOST_SHOPS + b;
            return within(at, 0, away.length - 1) ? away[at] : FAR;
        }

        int howMany(Text lanes, int shops, int a, int k) {
            measure(lanes, shops, false);
            int found = 0;
            for (int s = 0; s < shops; s++) {
                if (distance(a, s) == k) {
                    found++;
                }
            }
            return found;
        }

        int wide(Text lanes, int shops) {
            measure(lanes, shops, false);
            int found = NONE;
            for (int a = 0; a < shops; a++) {
                for (int b = 0; b < shops; b++) {
                    found = Math.max(found, distance(a, b));
                }
            }
            return found >= FAR ? NONE : found;
        }

        /** TRAMP: the fewest steps, and who is come to last by them. */
        void walk(Text lanes, int shops, int a) {
            measure(lanes, shops, true);
            int count = 0;
            for (int s = 0; s < shops; s++) {
                if (s != a && count < OTHERS) {
                    others[count] = s;
                    count++;
                }
            }
            for (int come = 1; come < 1 << count; come++) {
                for (int last = 0; last < count; last++) {
                    if ((come >> last & 1) == 1) {
                        walks[come * OTHERS + last] = fewestTo(come, last, count, a);
                    }
                }
            }
            chooseLast(count, a);
        }

        private int fewestTo(int come, int last, int count, int a) {
            int ahead = come ^ 1 << last;
            if (ahead == 0) {
                return distance(a, others[last]);
            }
            int found = FAR;
            for (int i = 0; i < count; i++) {
                if ((ahead >> i & 1) == 1) {
                    found = Math.min(found, walks[ahead * OTHERS + i] + distance(others[i], others[last]));
                }
            }
            return found;
        }

        private void chooseLast(int count, int a) {
            fewest = count == 0 ? 0 : FAR;
            lastCome = count == 0 ? a : NONE;
            int all = (1 << count) - 1;
            for (int i = 0; i < count; i++) {
                if (walks[all * OTHERS + i] < fewest) {
                    fewest = walks[all * OTHERS + i];
                    lastCome = others[i];
                }
            }
            fewest = fewest >= FAR ? NONE : fewest;
        }
    }

    /** What is thought of without the arcade's hours and ways. */
    private static final class Puzzles {
        static final int MOST_PAID = 200;
        static final int MOST_LAMPS = 500;
        static final int MOST_STEPS = 30;
        private static final int MOST_COIN = 50;
        private static final int MODULUS = 1000000007;
        // Far above what eight threads can cost.
        private static final int MOST_COST = 1000000;
        private static final int[] LETTERS = {0, 1, 2, 3, 2, 1, 2, 3, 4, 2};
        private static final int[] SIGN_WORTH = {1000, 900, 500, 400, 100, 90, 50, 40, 10, 9, 5, 4, 1};
        private static final int[] SIGN_FIRST = {6, 4, 5, 4, 4, 2, 3, 2, 2, 0, 1, 0, 0};
        private static final int[] SIGN_SECOND = {NONE, 6, NONE, 5, NONE, 4, NONE, 3, NONE, 2, NONE, 1, NONE};
        private final int[] first = new int[MOST_LAMPS + 1];
        private final int[] second = new int[MOST_LAMPS + 1];

        /**
         * PAYS. What has changed hands can be put in such an order that the sum is never a coin's worth or more
         * below 0 or above p, so that sums from -50 to 250 are enough.
         */
        int fewestHands(Row coins, int p) {
            int sums = MOST_PAID + 2 * MOST_COIN + 1;
            int[] hands = first;
            int[] queue = second;
            Arrays.fill(hands, NONE);
            hands[MOST_COIN] = 0;
            queue[0] = MOST_COIN;
            int told = 1;
            for (int next = 0; next < told && next < sums; next++) {
                int from = queue[next];
                for (int i = 0; i < 2 * coins.count; i++) {
                    int coin = coins.values[i >> 1];
                    int to = (i & 1) == 0 ? from + coin : from - coin;
                    if (within(to, 0, sums - 1) && hands[to] == NONE) {
                        hands[to] = hands[from] + 1;
                        queue[told] = to;
                        told++;
                    }
                }
            }
            return within(p, 0, MOST_PAID) ? hands[MOST_COIN + p] : NONE;
        }

        int waysToGive(Row coins, int p) {
            int[] ways = first;
            Arrays.fill(ways, 0);
            ways[0] = 1;
            for (int i = 0; i < coins.count; i++) {
                int coin = Math.max(1, coins.values[i]);
                for (int sum = coin; sum <= p && sum < ways.length; sum++) {
                    ways[sum] += ways[sum - coin];
                }
            }
            return within(p, 0, MOST_PAID) ? ways[p] : NONE;
        }

        /** AFTER YOU what 0 above, 1 below of VALUE, 2 above, 3 below of how often the first row. */
        static int afterYou(int[] stakes, int what) {
            if (stakes.length < 4) {
                return NO_EARNING;
            }
            int a = stakes[0];
            int b = stakes[1];
            int c = stakes[2];
            int d = stakes[3];
            int low = Math.max(Math.min(a, b), Math.min(c, d));
            int high = Math.min(Math.max(a, c), Math.max(b, d));
            if (low == high) {
                int always = Math.min(a, b) == low ? 1 : 0;
                return what == 0 ? low : what == 2 ? always : 1;
            }
            int above = what < 2 ? a * d - b * c : d - c;
            return lowest(above, a + d - b - c, (what & 1) == 1);
        }

        private static int lowest(int above, int below, boolean askedBelow) {
            int by = common(Math.abs(above), Math.abs(below));
            if (by == 0 || below == 0) {
                return askedBelow ? 1 : 0;
            }
            int found = (askedBelow ? below : above) / by;
            return below < 0 ? -found : found;
        }

        private static int common(int a, int b) {
            for (int i = 0; i < 100 && b != 0; i++) {
                int rest = a % b;
                a = b;
                b = rest;
            }
            return a;
        }

        int whoLeaves(int n, int k, int i) {
            int[] there = first;
            for (int j = 0; j < n && j < there.length; j++) {
                there[j] = j;
            }
            int at = 0;
            for (int left = Math.min(n, there.length); left > 0; left--) {
                at = (at + k - 1) % left;
                if (n - left == i) {
                    return there[at];
                }
                System.arraycopy(there, at + 1, there, at, left - 1 - at);
            }
            return NONE;
        }

        /** The order of due, as told if alike, for the two answers of SERVED. */
        void sortByDue(Row dues) {
            int[] order = first;
            for (int i = 0; i < dues.count; i++) {
                int at = i;
                for (int j = i; j > 0 && dues.values[order[j - 1]] > dues.values[i]; j--) {
                    order[j] = order[j - 1];
                    at = j - 1;
                }
                order[at] = i;
            }
        }

        /** Kept for each number of errands: the least time by which so many are through, each when due. */
        int mostServed(Row needs, Row dues) {
            int[] order = first;
            int[] least = second;
            int most = 0;
            least[0] = 0;
            for (int i = 0; i < needs.count; i++) {
                int need = needs.values[order[i]];
                int due = dues.values[order[i]];
                boolean oneMore = least[most] + need <= due;
                if (oneMore) {
                    least[most + 1] = least[most] + need;
                }
                for (int many = most; many > 0; many--) {
                    if (least[many - 1] + need <= due) {
                        least[many] = Math.min(least[many], least[many - 1] + need);
                    }
                }
                most = oneMore ? most + 1 : most;
            }
            return most;
        }

        int late(Row needs, Row dues) {
            int[] order = first;
            int time = 0;
            int all = 0;
            for (int i = 0; i < needs.count; i++) {
                time += needs.values[order[i]];
                all += Math.max(0, time - dues.values[order[i]]);
            }
            return all;
        }

        int burning(int n, int m, int j) {
            int[] burns = first;
            Arrays.fill(burns, 0);
            for (int i = 1; i <= m; i++) {
                for (int lamp = i; lamp <= n && lamp < burns.length; lamp += i) {
                    burns[lamp] = 1 - burns[lamp];
                }
            }
            if (j != NONE) {
                return within(j, 1, MOST_LAMPS) ? burns[j] : NONE;
            }
            int all = 0;
            for (int lamp = 1; lamp <= n && lamp < burns.length; lamp++) {
                all += burns[lamp];
            }
            return all;
        }

        /** The two shortest are joined, again and again; the row is held in falling order. */
        int joinedFreely(Row lengths) {
            int[] rest = first;
            int count = 0;
            for (int i = 0; i < lengths.count; i++) {
                insertFalling(rest, count, lengths.values[i]);
                count++;
            }
            int cost = 0;
            for (int left = count; left > 1; left--) {
                int joined = rest[left - 1] + rest[left - 2];
                cost += joined;
                insertFalling(rest, left - 2, joined);
            }
            return cost;
        }

        private static void insertFalling(int[] row, int count, int v) {
            int at = count;
            for (int i = count; i > 0 && row[i - 1] < v; i--) {
                row[i] = row[i - 1];
                at = i - 1;
            }
            row[at] = v;
        }

        /** Kept for each first and last thread: the least cost to make one of those from first to last. */
        int joinedSideBySide(Row lengths) {
            int count = lengths.count;
            int[] cost = first;
            Arrays.fill(cost, 0);
            for (int wide = 2; wide <= count; wide++) {
                for (int from = 0; from + wide <= count; from++) {
                    int to = from + wide - 1;
                    int least = MOST_COST;
                    int all = lengths.values[to];
                    for (int cut = from; cut < to; cut++) {
                        all += lengths.values[cut];
                        least = Math.min(least, cost[from * count + cut] + cost[(cut + 1) * count + to]);
                    }
                    cost[from * count + to] = least + all;
                }
            }
            return count < 2 ? 0 : cost[count - 1];
        }

        static int bestDays(Row days, boolean firstAsked) {
            int most = 0;
            int found = NONE;
            for (int from = 0; from < days.count; from++) {
                int all = 0;
                for (int to = from; to < days.count; to++) {
                    all += days.values[to];
                    if (found == NONE || all > most) {
                        most = all;
                        found = from;
                    }
                }
            }
            return firstAsked ? found : most;
        }

        static int rightCheck(int number) {
            int all = 0;
            int rest = number;
            for (int i = 0; i < 10; i++) {
                int digit = rest % 10;
                int counts = (i & 1) == 0 ? 2 * digit : digit;
                all += counts > 9 ? counts - 9 : counts;
                rest /= 10;
            }
            return Math.floorMod(-all, 10);
        }

        static int letters(int y) {
            int all = 0;
            int rest = Math.max(0, y);
            for (int i = 0; i < 4; i++) {
                all += LETTERS[rest % 10];
                rest /= 10;
            }
            return all;
        }

        static int letterAt(int y, int i) {
            int rest = y;
            int at = 0;
            for (int sign = 0; sign < SIGN_WORTH.length; sign++) {
                // None stands more than three times on end.
                for (int times = 0; times < 3 && rest >= SIGN_WORTH[sign]; times++) {
                    rest -= SIGN_WORTH[sign];
                    if (at == i) {
                        return SIGN_FIRST[sign];
                    }
                    at++;
                    if (SIGN_SECOND[sign] != NONE) {
                        if (at == i) {
                            return SIGN_SECOND[sign];
                        }
                        at++;
                    }
                }
            }
            return NONE;
        }

        static int yearsOfLetters(int y, int k) {
            int found = 0;
            for (int one = 1; one <= y; one++) {
                if (letters(one) == k) {
                    found++;
                }
            }
            return found;
        }

        static int couples(Row prices, int s) {
            int found = 0;
            for (int i = 0; i < prices.count; i++) {
                for (int j = i + 1; j < prices.count; j++) {
                    if (prices.values[i] + prices.values[j] == s) {
                        found++;
                    }
                }
            }
            return found;
        }

        /** Each set once: prices are above 0, so that only one of three can be the other two together. */
        static int threes(Row prices) {
            int found = 0;
            for (int sum = 0; sum < prices.count; sum++) {
                for (int i = 0; i < prices.count; i++) {
                    for (int j = i + 1; j < prices.count; j++) {
                        if (prices.values[i] + prices.values[j] == prices.values[sum]) {
                            found++;
                        }
                    }
                }
            }
            return found;
        }

        /** Kept for each n and each last step 1 .. 3 at n * 4 + step; with step 0 all rows together. */
        int dances(int n) {
            int[] rows = first;
            Arrays.fill(rows, 0);
            rows[0] = 1;
            for (int all = 1; all <= n && all <= MOST_STEPS; all++) {
                int together = 0;
                for (int step = 1; step <= 3 && step <= all; step++) {
                    int ahead = (all - step) * 4;
                    int found = Math.floorMod(rows[ahead] - rows[ahead + step], MODULUS);
                    rows[all * 4 + step] = found;
                    together = (together + found) % MODULUS;
                }
                rows[all * 4] = together;
            }
            return within(n, 0, MOST_STEPS) ? rows[n * 4] : NONE;
        }

        /** The least lifting leaves each as high as the highest other one asks of it, 5 less for each between. */
        static int lifts(Row heights) {
            int all = 0;
            for (int i = 0; i < heights.count; i++) {
                int high = heights.values[i];
                for (int j = 0; j < heights.count; j++) {
                    high = Math.max(high, heights.values[j] - 5 * Math.abs(i - j));
                }
                all += high - heights.values[i];
            }
            return all;
        }

        /** A move behind which the other one loses: from which, or how many. */
        static int goodMove(int[] goods, int shops, boolean howManyAsked) {
            int nim = 0;
            int big = 0;
            for (int s = 0; s < shops && s < goods.length; s++) {
                nim ^= goods[s];
                big += goods[s] > 1 ? 1 : 0;
            }
            for (int s = 0; s < shops && s < goods.length; s++) {
                int otherBig = goods[s] > 1 ? big - 1 : big;
                for (int taken = 1; taken <= goods[s]; taken++) {
                    int left = goods[s] - taken;
                    if (loses(nim ^ goods[s] ^ left, left > 1 ? otherBig + 1 : otherBig)) {
                        return howManyAsked ? taken : s;
                    }
                }
            }
            return NONE;
        }

        /** Who takes the last loses: with none above 1 left, it is an odd number of ones that is bad to have. */
        private static boolean loses(int nim, int big) {
            return big == 0 ? nim == 1 : nim == 0;
        }
    }
}
