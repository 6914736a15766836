import java.util.ArrayList;
import java.util.HashMap;
import java.util.List;
import java.util.Map;
import java.util.Random;

/** Random runs of calls, always the same ones, of which each answer is compared with the Mirror's. */
public final class MirrorTest {
    private static final int NONE = ArcadePoles.NONE;
    private static final int CALLS = 512;
    private final Due due;
    private final Random dice;
    private final ArcadePoles x = new ArcadePoles();
    private final Mirror m = new Mirror();
    private final List<String> calls = new ArrayList<>();
    private boolean stopped = false;

    private MirrorTest(Due due, long seed) {
        this.due = due;
        dice = new Random(seed);
    }

    public static void main(String[] args) {
        Due due = new Due("MirrorTest");
        int runs = args.length > 0 ? Integer.parseInt(args[0]) : 300;
        long first = args.length > 1 ? Long.parseLong(args[1]) : 1;
        for (long seed = first; seed < first + runs; seed++) {
            new MirrorTest(due, seed).run();
        }
        smallGames(due);
        manyErrands(due);
        allYears(due);
        due.close();
    }

    private static void smallGames(Due due) {
        Map<List<Integer>, Boolean> known = new HashMap<>();
        for (int code = 0; code < 6 * 6 * 6 * 3; code++) {
            int[] goods = {code % 6, code / 6 % 6, code / 36 % 6, code / 216};
            ArcadePoles x = new ArcadePoles();
            for (int g : goods) {
                x.shop(g, 1);
            }
            int which = NONE;
            int howMany = NONE;
            for (int s = 3; s >= 0; s--) {
                for (int taken = goods[s]; taken > 0; taken--) {
                    List<Integer> then = new ArrayList<>();
                    for (int i = 0; i < 4; i++) {
                        then.add(i == s ? goods[i] - taken : goods[i]);
                    }
                    if (Mirror.losesByTrying(then, known)) {
                        which = s;
                        howMany = taken;
                    }
                }
            }
            due.is("game(0) of " + code, x.game(0), which);
            due.is("game(1) of " + code, x.game(1), howMany);
        }
    }

    private static void manyErrands(Due due) {
        Random dice = new Random(7);
        for (int i = 0; i < 1500; i++) {
            ArcadePoles x = new ArcadePoles();
            Mirror m = new Mirror();
            StringBuilder told = new StringBuilder("errands");
            for (int j = 2 + dice.nextInt(9); j > 0; j--) {
                int needs = 1 + dice.nextInt(i % 20 + 1);
                int by = dice.nextInt(i % 70 + 30);
                x.errand(needs, by);
                m.errand(needs, by);
                told.append(" ").append(needs).append(" by ").append(by);
            }
            due.is("served(0) of " + told, x.served(0), m.served(0));
            due.is("served(1) of " + told, x.served(1), m.served(1));
        }
    }

    private static void allYears(Due due) {
        ArcadePoles x = new ArcadePoles();
        Mirror m = new Mirror();
        for (int y = 1; y <= 3999; y++) {
            for (int what = 0; what <= 16; what++) {
                due.is("year(" + y + ", " + what + ")", x.year(y, what), m.year(y, what));
            }
        }
    }

    private void run() {
        int shops = dice.nextInt(13);
        int customers = dice.nextInt(19);
        for (int i = 0; i < shops; i++) {
            shop(upTo(dice.nextInt(3) == 0 ? 3 : 99), 1 + upTo(98));
        }
        for (int i = 0; i < customers; i++) {
            customer(upTo(dice.nextBoolean() ? 300 : 9999), upTo(9));
        }
        for (int k = 0; k < 4 && dice.nextInt(4) > 0; k++) {
            text(k);
        }
        for (int i = 0; calls.size() < CALLS && !stopped; i++) {
            any();
        }
    }

    private void same(String call, long got, long want) {
        if (stopped) {
            return;
        }
        calls.add(call);
        due.is(call, got, want);
        if (got != want) {
            stopped = true;
            calls.forEach(System.out::println);
        }
    }

    private void same(String call, boolean got, boolean want) {
        same(call, got ? 1 : 0, want ? 1 : 0);
    }

    private int upTo(int most) {
        return dice.nextInt(most + 1);
    }

    /** Mostly from low to high, now and then just outside or far away. */
    private int about(int low, int high) {
        switch (dice.nextInt(40)) {
            case 0: return low - 1;
            case 1: return high + 1;
            case 2: return low;
            case 3: return high;
            case 4: return dice.nextInt(3) == 0 ? dice.nextInt() : low;
            case 5: return dice.nextInt(3) == 0 ? Integer.MIN_VALUE : NONE;
            case 6: return dice.nextInt(3) == 0 ? Integer.MAX_VALUE : high;
            default: return low + upTo(high - low);
        }
    }

    private int aShop() {
        return about(0, Math.max(0, m.look(0) - 1));
    }

    private int aCustomer() {
        return about(0, Math.max(0, m.look(1) - 1));
    }

    private void shop(int goods, int price) {
        same("shop(" + goods + ", " + price + ")", x.shop(goods, price), m.shop(goods, price));
    }

    private void customer(int purse, int polite) {
        same("customer(" + purse + ", " + polite + ")", x.customer(purse, polite), m.customer(purse, polite));
    }

    private void any() {
        switch (dice.nextInt(30)) {
            case 0: rare(); break;
            case 1: case 2: case 3: case 4: case 5: byHand(); break;
            case 6: case 7: hours(); break;
            case 8: text(dice.nextInt(12) == 0 ? about(0, 3) : upTo(3)); break;
            case 9: case 10: undoOrImage(); break;
            case 11: case 12: case 13: case 14: case 15: thought(); break;
            case 16: case 17:
                int kind = dice.nextInt(7);
                for (int i = upTo(6); i >= 0; i--) {
                    telling(kind);
                }
                break;
            case 18: case 19: case 20: case 21: case 22: counting(dice.nextInt(12)); break;
            default: looking();
        }
    }

    private void rare() {
        int a = about(0, 99);
        int b = about(1, 99);
        switch (dice.nextInt(5)) {
            case 0: shop(a, b); break;
            case 1: customer(about(0, 9999), about(0, 9)); break;
            case 2: same("state(" + a + ")", x.state(a), m.state(a)); break;
            default:
                int what = about(0, 2);
                int who = what == 0 ? aShop() : aCustomer();
                int v = what == 0 ? b : what == 1 ? about(0, 9999) : about(0, 9);
                same("set(" + what + ", " + who + ", " + v + ")", x.set(what, who, v), m.set(what, who, v));
        }
    }

    private void byHand() {
        int what = about(0, 3);
        int who = what == 3 ? aShop() : aCustomer();
        int v = what == 3 ? about(0, dice.nextInt(2) == 0 ? 4 : 99) : aShop();
        same("act(" + what + ", " + who + ", " + v + ")", x.act(what, who, v), m.act(what, who, v));
    }

    private void hours() {
        int n = dice.nextInt(3) == 0 ? about(1, 60) : 1 + upTo(7);
        same("hours(" + n + ")", x.hours(n), m.hours(n));
    }

    private void undoOrImage() {
        if (dice.nextInt(8) == 0) {
            boolean taken = dice.nextInt(3) > 0;
            same("image(" + taken + ")", x.image(taken), m.image(taken));
        } else {
            same("undo()", x.undo(), m.undo());
        }
    }

    private void looking() {
        int what = about(0, 12);
        int s = aShop();
        int c = aCustomer();
        switch (dice.nextInt(5)) {
            case 0: same("look(" + what + ")", x.look(what), m.look(what)); break;
            case 1:
                int i = about(0, Math.max(0, m.look(6) - 1));
                int cell = about(0, 4);
                same("book(" + i + ", " + cell + ")", x.book(i, cell), m.book(i, cell));
                break;
            case 2:
                int of = dice.nextBoolean() ? about(0, 7) : 10 + s;
                same("of(" + s + ", " + of + ")", x.of(s, of), m.of(s, of));
                break;
            default:
                int who = dice.nextBoolean() ? about(0, 4) : 10 + 20 * dice.nextInt(3) + s;
                same("who(" + c + ", " + who + ")", x.who(c, who), m.who(c, who));
        }
    }

    private void thought() {
        int s = aShop();
        int what = about(0, 1);
        switch (dice.nextInt(7)) {
            case 0: case 1:
                int n = about(1, 60);
                int which = about(0, 3);
                same("goes(" + n + ", " + which + ")", x.goes(n, which), m.goes(n, which));
                break;
            case 2:
                int of = dice.nextInt(3) == 0 ? about(0, 1) : 10 + s;
                same("cheaply(" + of + ")", x.cheaply(of), m.cheaply(of));
                break;
            case 3: same("tramp(" + s + ", " + what + ")", x.tramp(s, what), m.tramp(s, what)); break;
            case 4:
                int k = about(0, 11);
                same("knows(" + s + ", " + k + ")", x.knows(s, k), m.knows(s, k));
                break;
            case 5: same("knows(-1, " + s + ")", x.knows(NONE, s), m.knows(NONE, s)); break;
            default: same("game(" + what + ")", x.game(what), m.game(what));
        }
    }

    private void telling(int kind) {
        int v = dice.nextInt(15) == 0 ? NONE : about(1, 99);
        switch (kind) {
            case 0:
                int coin = dice.nextInt(15) == 0 ? NONE : about(1, 50);
                same("coin(" + coin + ")", x.coin(coin), m.coin(coin));
                break;
            case 1:
                int n = dice.nextBoolean() ? 99 : 5;
                int a = about(-n, n);
                int b = about(-n, n);
                int c = about(-n, n);
                int d = about(-n, n);
                same("told(" + a + ", " + b + ", " + c + ", " + d + ")", x.told(a, b, c, d), m.told(a, b, c, d));
                break;
            case 2:
                int needs = dice.nextInt(15) == 0 ? NONE : about(1, 20);
                int by = about(0, dice.nextBoolean() ? 99 : 40);
                same("errand(" + needs + ", " + by + ")", x.errand(needs, by), m.errand(needs, by));
                break;
            case 3: same("thread(" + v + ")", x.thread(v), m.thread(v)); break;
            case 4:
                int day = dice.nextInt(15) == 0 ? -1000 : about(-99, 99) / (1 + upTo(30));
                same("earn(" + day + ")", x.earn(day), m.earn(day));
                break;
            case 5:
                int price = v > 0 && dice.nextInt(8) > 0 ? 1 + v % 8 : v;
                same("price(" + price + ")", x.price(price), m.price(price));
                break;
            default: same("shutter(" + v + ")", x.shutter(v), m.shutter(v));
        }
    }

    private void counting(int kind) {
        int what = about(0, 1);
        int a;
        int b;
        int c;
        switch (kind) {
            case 0:
                a = about(0, 200);
                same("pays(" + a + ", " + what + ")", x.pays(a, what), m.pays(a, what));
                break;
            case 1:
                a = about(0, 3);
                same("after(" + a + ")", x.after(a), m.after(a));
                break;
            case 2:
                a = about(1, 100);
                b = about(1, 100);
                c = about(0, Math.max(1, Math.min(100, a)) - 1);
                same("ring(" + a + ", " + b + ", " + c + ")", x.ring(a, b, c), m.ring(a, b, c));
                break;
            case 3: same("served(" + what + ")", x.served(what), m.served(what)); break;
            case 4:
                a = about(1, 500);
                b = about(0, 500);
                c = dice.nextBoolean() ? NONE : about(1, Math.max(1, Math.min(500, a)));
                same("lamps(" + a + ", " + b + ", " + c + ")", x.lamps(a, b, c), m.lamps(a, b, c));
                break;
            case 5: same("threads(" + what + ")", x.threads(what), m.threads(what)); break;
            case 6: same("earned(" + what + ")", x.earned(what), m.earned(what)); break;
            case 7:
                a = about(0, 999999999) >> dice.nextInt(20);
                b = about(0, 9);
                same("written(" + a + ", " + b + ", " + what + ")", x.written(a, b, what), m.written(a, b, what));
                break;
            case 8:
                a = about(1, 3999);
                b = dice.nextBoolean() ? about(0, 15) : about(101, 115);
                same("year(" + a + ", " + b + ")", x.year(a, b), m.year(a, b));
                break;
            case 9:
                a = dice.nextInt(3) == 0 ? NONE : about(0, dice.nextBoolean() ? 198 : 20);
                same("sums(" + a + ")", x.sums(a), m.sums(a));
                break;
            case 10:
                a = about(0, 30);
                same("waltz(" + a + ")", x.waltz(a), m.waltz(a));
                break;
            default: same("lifted()", x.lifted(), m.lifted());
        }
    }

    private void text(int k) {
        StringBuilder told = new StringBuilder();
        if (k == 3 && dice.nextInt(3) > 0) {
            joinAll(told);
        }
        int lines = dice.nextInt(10) == 0 ? 14 + upTo(4) : upTo(9);
        for (int i = 0; i < lines; i++) {
            String line = k == 0 ? lawLine() : k == 1 ? roundsLine() : k == 2 ? calendarLine() : laneLine();
            if (told.length() + line.length() > 400) {
                break;
            }
            told.append(line);
        }
        if (dice.nextInt(4) == 0) {
            spoil(told);
        }
        String all = told.toString();
        for (int i = 0; i < all.length(); i += 20) {
            int a = Due.four(all, i);
            int b = Due.four(all, i + 4);
            int c = Due.four(all, i + 8);
            int d = Due.four(all, i + 12);
            int e = Due.four(all, i + 16);
            same("feed(" + a + ", " + b + ", " + c + ", " + d + ", " + e + ")",
                x.feed(a, b, c, d, e), m.feed(a, b, c, d, e));
        }
        int n = dice.nextInt(20) == 0 ? about(0, 400) : all.length();
        same("end(" + n + ")", x.end(n), m.end(n));
        if (dice.nextInt(30) > 0) {
            same("text(" + k + ") <" + all + ">", x.text(k), m.text(k));
            same("fault(0) <" + all + ">", x.fault(0), m.fault(0));
            same("fault(1) <" + all + ">", x.fault(1), m.fault(1));
        }
    }

    /** So many lines that all shops hang together, so that there are ways along them. */
    private void joinAll(StringBuilder told) {
        for (int s = 1; s < m.look(0); s++) {
            told.append("shop ").append(s).append(" by shop ").append(dice.nextInt(s)).append(" ")
                .append(1 + upTo(dice.nextBoolean() ? 4 : 98)).append(";");
        }
    }

    private void spoil(StringBuilder told) {
        String signs = ";+-*/()<=>09azAZ \n\t\u00e9@[`{:notr";
        for (int i = upTo(2); i >= 0 && told.length() > 0; i--) {
            int at = dice.nextInt(told.length());
            char sign = signs.charAt(dice.nextInt(signs.length()));
            switch (dice.nextInt(4)) {
                case 0: told.setCharAt(at, sign); break;
                case 1: told.deleteCharAt(at); break;
                case 2: told.setLength(at); break;
                default:
                    if (told.length() < 400) {
                        told.insert(at, sign);
                    }
            }
        }
    }

    private String blank() {
        return dice.nextInt(12) == 0 ? "\n " : " ";
    }

    private String aNumber(int low, int high) {
        return "" + (dice.nextInt(50) == 0 ? high + 1 : low + upTo(Math.max(0, high - low)));
    }

    private String shopNumber() {
        return aNumber(0, m.look(0) - 1);
    }

    private String customerNumber() {
        return aNumber(0, m.look(1) - 1);
    }

    private String roundsLine() {
        return "customer " + customerNumber() + blank() + "at " + aNumber(0, dice.nextBoolean() ? 3 : 11) + blank()
            + (dice.nextInt(4) == 0 ? "out" : "in " + shopNumber()) + ";";
    }

    private String calendarLine() {
        String on = "on " + aNumber(0, dice.nextInt(10) == 0 ? 999 : m.look(3) + 4) + blank();
        switch (dice.nextInt(4)) {
            case 0: return on + "stock " + shopNumber() + " " + aNumber(0, 99) + ";";
            case 1: return on + "price " + shopNumber() + " " + aNumber(1, 99) + ";";
            case 2: return on + "give " + customerNumber() + blank() + aNumber(1, 999) + ";";
            default: return on + "push " + shopNumber() + " " + customerNumber() + ";";
        }
    }

    private String laneLine() {
        return "shop " + shopNumber() + " by shop " + shopNumber() + blank() + aNumber(1, dice.nextBoolean() ? 4 : 99)
            + ";";
    }

    private String lawLine() {
        String word = new String[] {"buys", "yields", "costs"}[dice.nextInt(3)];
        String value = word.equals("costs") ? sum(1) : dice.nextBoolean() ? aNumber(0, 999) + "-" + sum(1) : sum(3);
        return word + " " + value + (dice.nextInt(3) > 0 ? " when" + blank() + condition(0) : "") + ";";
    }

    private String sum(int most) {
        StringBuilder told = new StringBuilder(product());
        for (int i = upTo(most); i > 0; i--) {
            told.append(dice.nextBoolean() ? " + " : "-").append(product());
        }
        return told.toString();
    }

    private String product() {
        StringBuilder told = new StringBuilder(unit());
        for (int i = dice.nextInt(3) == 0 ? 1 + upTo(1) : 0; i > 0; i--) {
            told.append(dice.nextBoolean() ? "*" + unit() : "/ " + aNumber(dice.nextInt(20) == 0 ? 0 : 1, 30));
        }
        return told.toString();
    }

    private String unit() {
        String[] words = {"purse", "polite", "goods", "price", "till", "nights", "poles", "crowd", "hour", "bought",
            "day"};
        return dice.nextInt(3) == 0 ? aNumber(0, dice.nextBoolean() ? 20 : 9999) : words[dice.nextInt(words.length)];
    }

    private String condition(int depth) {
        StringBuilder told = new StringBuilder(one(depth));
        for (int i = dice.nextInt(3) == 0 ? 1 + upTo(2) : 0; i > 0; i--) {
            told.append(dice.nextBoolean() ? " and " : " or ").append(one(depth));
        }
        return told.toString();
    }

    private String one(int depth) {
        if (depth < 10 && dice.nextInt(depth > 2 ? 2 : 3) == 0) {
            return dice.nextBoolean() ? "not " + one(depth + 1) : "(" + condition(depth + 1) + ")";
        }
        return sum(1) + new String[] {"<", "=", ">"}[dice.nextInt(3)] + sum(0);
    }
}
