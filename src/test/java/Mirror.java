import java.util.ArrayDeque;
import java.util.ArrayList;
import java.util.Arrays;
import java.util.Collections;
import java.util.Deque;
import java.util.HashMap;
import java.util.HashSet;
import java.util.List;
import java.util.Map;
import java.util.PriorityQueue;
import java.util.Set;
import java.util.TreeSet;
import java.util.function.Predicate;
import java.util.function.ToIntFunction;

/**
 * The document written a second time, plainly and with the whole Java library: texts as trees, the past as deep
 * copies, and what is thought of by trying everything out.
 */
final class Mirror {
    private static final int NONE = -1;

    /** What a text was found wrong by. */
    private static final class Wrong extends RuntimeException {
        private static final long serialVersionUID = 1L;
        final int which;
        final int place;

        Wrong(int which, int place) {
            this.which = which;
            this.place = place;
        }
    }

    private static final class Shop {
        int goods;
        int price;
        int till;
        boolean open = true;
        int last = NONE;
        int before = NONE;
        int nights;

        Shop copy() {
            Shop s = new Shop();
            s.goods = goods;
            s.price = price;
            s.till = till;
            s.open = open;
            s.last = last;
            s.before = before;
            s.nights = nights;
            return s;
        }
    }

    private static final class Buyer {
        int purse;
        int polite;
        int in = NONE;
        int poles;
        int bought;

        Buyer copy() {
            Buyer b = new Buyer();
            b.purse = purse;
            b.polite = polite;
            b.in = in;
            b.poles = poles;
            b.bought = bought;
            return b;
        }
    }

    private static final class Scene {
        List<Shop> shops = new ArrayList<>();
        List<Buyer> buyers = new ArrayList<>();
        List<int[]> book = new ArrayList<>();
        int hour;
        int day;
        int state;

        Scene copy() {
            Scene s = new Scene();
            for (Shop one : shops) {
                s.shops.add(one.copy());
            }
            for (Buyer one : buyers) {
                s.buyers.add(one.copy());
            }
            s.book.addAll(book);
            s.hour = hour;
            s.day = day;
            s.state = state;
            return s;
        }
    }

    private static final class Asked {
        final Scene scene;
        final Buyer buyer;
        final Shop shop;
        final int crowd;

        Asked(Scene scene, int c, int s) {
            this.scene = scene;
            buyer = scene.buyers.get(c);
            shop = scene.shops.get(s);
            int all = 0;
            for (Buyer b : scene.buyers) {
                all += b.in == s ? 1 : 0;
            }
            crowd = all;
        }

        int word(String name) {
            switch (name) {
                case "purse": return buyer.purse;
                case "polite": return buyer.polite;
                case "goods": return shop.goods;
                case "price": return shop.price;
                case "till": return shop.till;
                case "nights": return shop.nights;
                case "poles": return buyer.poles;
                case "crowd": return crowd;
                case "hour": return scene.hour;
                case "bought": return buyer.bought;
                default: return scene.day;
            }
        }
    }

    private static final class Rule {
        String word;
        ToIntFunction<Asked> value;
        Predicate<Asked> when = a -> true;
    }

    /** All that the image holds beside the scene; never changed in place but replaced. */
    private static final class Told {
        List<Rule> law = List.of();
        List<String[]> rounds = List.of();
        List<String[]> calendar = List.of();
        List<String[]> lanes = List.of();
        List<Integer> coins = List.of();
        int[] stakes = {0, 0, 0, 0};
        List<int[]> errands = List.of();
        List<Integer> threads = List.of();
        List<Integer> days = List.of();
        List<Integer> prices = List.of();
        List<Integer> heights = List.of();

        Told copy() {
            Told t = new Told();
            t.law = law;
            t.rounds = rounds;
            t.calendar = calendar;
            t.lanes = lanes;
            t.coins = coins;
            t.stakes = stakes;
            t.errands = errands;
            t.threads = threads;
            t.days = days;
            t.prices = prices;
            t.heights = heights;
            return t;
        }
    }

    private Scene scene = new Scene();
    private Told told = new Told();
    private Scene imageScene;
    private Told imageTold;
    private final Deque<Scene> past = new ArrayDeque<>();
    private final StringBuilder tape = new StringBuilder();
    private int fault = 0;
    private int place = NONE;

    private static boolean in(int v, int low, int high) {
        return low <= v && v <= high;
    }

    private boolean isShop(int s) {
        return in(s, 0, scene.shops.size() - 1);
    }

    private boolean isBuyer(int c) {
        return in(c, 0, scene.buyers.size() - 1);
    }

    private void keep() {
        past.push(scene.copy());
        while (past.size() > 6) {
            past.removeLast();
        }
    }

    int state(int v) {
        int was = scene.state;
        scene.state = v;
        past.clear();
        return was;
    }

    int shop(int goods, int price) {
        if (!in(goods, 0, 99) || !in(price, 1, 99) || scene.shops.size() == 12) {
            return NONE;
        }
        Shop s = new Shop();
        s.goods = goods;
        s.price = price;
        scene.shops.add(s);
        past.clear();
        return scene.shops.size() - 1;
    }

    int customer(int purse, int polite) {
        if (!in(purse, 0, 9999) || !in(polite, 0, 9) || scene.buyers.size() == 18) {
            return NONE;
        }
        Buyer b = new Buyer();
        b.purse = purse;
        b.polite = polite;
        scene.buyers.add(b);
        past.clear();
        return scene.buyers.size() - 1;
    }

    boolean set(int what, int who, int v) {
        if (what == 0) {
            if (!isShop(who) || !in(v, 1, 99)) {
                return false;
            }
            scene.shops.get(who).price = v;
        } else if (what == 1) {
            if (!isBuyer(who) || !in(v, 0, 9999)) {
                return false;
            }
            scene.buyers.get(who).purse = v;
        } else if (what == 2) {
            if (!isBuyer(who) || !in(v, 0, 9)) {
                return false;
            }
            scene.buyers.get(who).polite = v;
        } else {
            return false;
        }
        past.clear();
        return true;
    }

    boolean act(int what, int who, int v) {
        if (what == 0) {
            if (!isBuyer(who) || !isShop(v) || !scene.shops.get(v).open || scene.buyers.get(who).in == v) {
                return false;
            }
            keep();
            scene.buyers.get(who).in = v;
            return true;
        }
        if (what == 1) {
            if (!isBuyer(who) || scene.buyers.get(who).in == NONE) {
                return false;
            }
            keep();
            scene.buyers.get(who).in = NONE;
            return true;
        }
        if (what == 2) {
            if (!isBuyer(who) || scene.buyers.get(who).in == NONE) {
                return false;
            }
            Shop shop = scene.shops.get(scene.buyers.get(who).in);
            int cost = tells("costs", scene, who, scene.buyers.get(who).in);
            if (!shop.open || shop.goods == 0 || scene.buyers.get(who).purse < cost) {
                return false;
            }
            keep();
            buy(scene, who, cost);
            return true;
        }
        if (what == 3) {
            if (!isShop(who) || !in(v, 0, 99)) {
                return false;
            }
            keep();
            scene.shops.get(who).goods = v;
            return true;
        }
        return false;
    }

    private static void line(Scene at, int what, int who, int howMuch) {
        if (at.book.size() < 150) {
            at.book.add(new int[] {at.day, at.hour, what, who, howMuch});
        }
    }

    private static void isLast(Shop shop, int c) {
        if (shop.last != NONE && shop.last != c) {
            shop.before = shop.last;
        }
        shop.last = c;
    }

    private static void buy(Scene at, int c, int cost) {
        Buyer b = at.buyers.get(c);
        Shop shop = at.shops.get(b.in);
        shop.goods -= 1;
        b.purse -= cost;
        shop.till += cost;
        b.bought += 1;
        isLast(shop, c);
        line(at, 0, c, cost);
    }

    private int tells(String word, Scene at, int c, int s) {
        Asked asked = new Asked(at, c, s);
        int v = word.equals("buys") ? 600 - 40 * at.hour
            : word.equals("yields") ? 100 * asked.buyer.polite : asked.shop.price;
        for (Rule rule : told.law) {
            if (rule.word.equals(word) && rule.when.test(asked)) {
                v = rule.value.applyAsInt(asked);
                break;
            }
        }
        int most = word.equals("costs") ? 999 : 1000;
        return v < 0 ? 0 : v > most ? most : v;
    }

    private static boolean falls(Scene at, int likely, boolean thought) {
        if (thought) {
            return likely >= 500;
        }
        if (likely <= 0) {
            return false;
        }
        at.state = 1664525 * at.state + 1013904223;
        long top = (at.state & 0xffffffffL) / 256;
        return top % 1000 < likely;
    }

    private int anHour(Scene at, boolean thought) {
        if (at.hour == 0) {
            for (Shop shop : at.shops) {
                shop.open = true;
                shop.last = NONE;
                shop.before = NONE;
            }
            for (String[] t : told.calendar) {
                if (Integer.parseInt(t[1]) == at.day) {
                    calendarLine(at, t[2], Integer.parseInt(t[3]), Integer.parseInt(t[4]));
                }
            }
        }
        for (String[] t : told.rounds) {
            if (Integer.parseInt(t[3]) == at.hour) {
                Buyer b = at.buyers.get(Integer.parseInt(t[1]));
                if (t[4].equals("out")) {
                    b.in = NONE;
                } else if (at.shops.get(Integer.parseInt(t[5])).open) {
                    b.in = Integer.parseInt(t[5]);
                }
            }
        }
        int count = 0;
        for (int c = 0; c < at.buyers.size(); c++) {
            Buyer b = at.buyers.get(c);
            if (b.in == NONE || at.shops.get(b.in).goods == 0) {
                continue;
            }
            int cost = tells("costs", at, c, b.in);
            if (b.purse >= cost && falls(at, tells("buys", at, c, b.in), thought)) {
                buy(at, c, cost);
                count++;
            }
        }
        if (at.hour < 11) {
            at.hour++;
            return count;
        }
        for (int s = 0; s < at.shops.size(); s++) {
            anEvening(at, s, thought);
        }
        for (Buyer b : at.buyers) {
            b.in = NONE;
        }
        at.hour = 0;
        at.day++;
        return count;
    }

    private static void calendarLine(Scene at, String kind, int a, int b) {
        if (kind.equals("stock")) {
            at.shops.get(a).goods = b;
        } else if (kind.equals("price")) {
            at.shops.get(a).price = b;
        } else if (kind.equals("give")) {
            at.buyers.get(a).purse = Math.min(9999, at.buyers.get(a).purse + b);
        } else if (at.shops.get(a).goods > 0) {
            at.shops.get(a).goods--;
            isLast(at.shops.get(a), b);
            at.buyers.get(b).bought++;
            line(at, 1, b, a);
        }
    }

    private void anEvening(Scene at, int s, boolean thought) {
        Shop shop = at.shops.get(s);
        int one = shop.last;
        if (one != NONE && falls(at, tells("yields", at, one, s), thought)) {
            line(at, 2, one, s);
            one = shop.before;
        }
        if (one == NONE) {
            shop.nights++;
            line(at, 4, s, shop.nights);
            return;
        }
        at.buyers.get(one).poles++;
        shop.open = false;
        shop.nights = 0;
        line(at, 3, one, s);
    }

    int hours(int n) {
        if (!in(n, 1, 60) || scene.day + (scene.hour + n) / 12 > 9990) {
            return NONE;
        }
        int count = 0;
        for (int i = 0; i < n; i++) {
            keep();
            count += anHour(scene, false);
        }
        return count;
    }

    int feed(int a, int b, int c, int d, int e) {
        if (tape.length() > 380) {
            return NONE;
        }
        for (int number : new int[] {a, b, c, d, e}) {
            tape.append((char) (number >>> 24)).append((char) (number >> 16 & 255));
            tape.append((char) (number >> 8 & 255)).append((char) (number & 255));
        }
        return tape.length();
    }

    boolean end(int n) {
        if (n < 0 || n > tape.length()) {
            return false;
        }
        tape.setLength(n);
        return true;
    }

    // Texts: a list of words with their places, then a walk along it.

    private List<String> words;
    private List<Integer> places;
    private int at;

    private void split(String s) {
        words = new ArrayList<>();
        places = new ArrayList<>();
        int i = 0;
        while (i < s.length()) {
            int from = i;
            String kind = s.substring(i, i + 1);
            i++;
            if (kind.equals(" ") || kind.equals("\n")) {
                continue;
            }
            for (String run : new String[] {"[a-zA-Z]", "[0-9]"}) {
                if (kind.matches(run)) {
                    while (i < s.length() && s.substring(i, i + 1).matches(run)) {
                        i++;
                    }
                }
            }
            words.add(s.substring(from, i));
            places.add(from);
        }
        words.add("END");
        places.add(s.length());
    }

    private String peek() {
        return words.get(at);
    }

    private Wrong bad(int which) {
        return new Wrong(which, places.get(at));
    }

    private String need(String... any) {
        if (at == words.size() - 1 || !Arrays.asList(any).contains(peek())) {
            throw bad(1);
        }
        return words.get(at++);
    }

    private String number(int low, int high) {
        if (!peek().matches("[0-9]{1,4}")) {
            throw bad(1);
        }
        int v = Integer.parseInt(peek());
        if (v < low || v > high) {
            throw bad(2);
        }
        at++;
        return Integer.toString(v);
    }

    private String number(int most) {
        return number(0, most - 1);
    }

    private ToIntFunction<Asked> unit() {
        if (peek().matches("[0-9]{1,4}")) {
            int v = Integer.parseInt(number(0, 9999));
            return a -> v;
        }
        String w = need("purse", "polite", "goods", "price", "till", "nights", "poles", "crowd", "hour", "bought",
            "day");
        return a -> a.word(w);
    }

    private ToIntFunction<Asked> product() {
        ToIntFunction<Asked> v = unit();
        while (peek().equals("*") || peek().equals("/")) {
            ToIntFunction<Asked> left = v;
            if (need("*", "/").equals("*")) {
                ToIntFunction<Asked> right = unit();
                v = a -> left.applyAsInt(a) * right.applyAsInt(a);
            } else {
                int by = Integer.parseInt(number(1, 9999));
                v = a -> left.applyAsInt(a) / by;
            }
        }
        return v;
    }

    private ToIntFunction<Asked> sum() {
        ToIntFunction<Asked> v = product();
        while (peek().equals("+") || peek().equals("-")) {
            ToIntFunction<Asked> left = v;
            boolean plus = need("+", "-").equals("+");
            ToIntFunction<Asked> right = product();
            v = a -> plus ? left.applyAsInt(a) + right.applyAsInt(a) : left.applyAsInt(a) - right.applyAsInt(a);
        }
        return v;
    }

    private Predicate<Asked> any(int open) {
        Predicate<Asked> v = all(open);
        while (peek().equals("or")) {
            at++;
            v = v.or(all(open));
        }
        return v;
    }

    private Predicate<Asked> all(int open) {
        Predicate<Asked> v = one(open);
        while (peek().equals("and")) {
            at++;
            v = v.and(one(open));
        }
        return v;
    }

    private Predicate<Asked> one(int open) {
        if (peek().equals("not") || peek().equals("(")) {
            if (open == 8) {
                throw bad(3);
            }
            if (need("not", "(").equals("not")) {
                return one(open + 1).negate();
            }
            Predicate<Asked> v = any(open + 1);
            need(")");
            return v;
        }
        ToIntFunction<Asked> left = sum();
        String sign = need("<", "=", ">");
        ToIntFunction<Asked> right = sum();
        return a -> {
            int order = Integer.compare(left.applyAsInt(a), right.applyAsInt(a));
            return sign.equals("<") ? order < 0 : sign.equals("=") ? order == 0 : order > 0;
        };
    }

    private void lineBegins(int lines, String... any) {
        if (Arrays.asList(any).contains(peek()) && lines == 16) {
            throw bad(3);
        }
    }

    private List<Rule> readLaw() {
        List<Rule> rules = new ArrayList<>();
        while (at < words.size() - 1) {
            lineBegins(rules.size(), "buys", "yields", "costs");
            Rule rule = new Rule();
            rule.word = need("buys", "yields", "costs");
            rule.value = sum();
            if (peek().equals("when")) {
                at++;
                rule.when = any(0);
            }
            need(";");
            rules.add(rule);
        }
        return rules;
    }

    private List<String[]> readLines(int k) {
        List<String[]> lines = new ArrayList<>();
        int shops = scene.shops.size();
        int buyers = scene.buyers.size();
        while (at < words.size() - 1) {
            lineBegins(lines.size(), k == 1 ? "customer" : k == 2 ? "on" : "shop");
            List<String> t = new ArrayList<>();
            if (k == 1) {
                t.addAll(List.of(need("customer"), number(buyers), need("at"), number(12)));
                t.add(need("in", "out"));
                if (t.get(4).equals("in")) {
                    t.add(number(shops));
                }
            } else if (k == 2) {
                t.addAll(List.of(need("on"), number(1000), need("stock", "price", "give", "push")));
                t.add(number(t.get(2).equals("give") ? buyers : shops));
                t.add(t.get(2).equals("stock") ? number(100) : t.get(2).equals("price") ? number(1, 99)
                    : t.get(2).equals("give") ? number(1, 999) : number(buyers));
            } else {
                t.addAll(List.of(need("shop"), number(shops), need("by"), need("shop"), number(shops)));
                if (t.get(4).equals(t.get(1))) {
                    at--;
                    throw bad(2);
                }
                t.add(number(1, 99));
            }
            need(";");
            lines.add(t.toArray(new String[0]));
        }
        return lines;
    }

    int text(int k) {
        String s = tape.toString();
        tape.setLength(0);
        fault = 0;
        place = NONE;
        if (!in(k, 0, 3)) {
            return NONE;
        }
        split(s);
        at = 0;
        try {
            if (k == 0) {
                told.law = readLaw();
                return told.law.size();
            }
            List<String[]> lines = readLines(k);
            if (k == 1) {
                told.rounds = lines;
            } else if (k == 2) {
                told.calendar = lines;
            } else {
                told.lanes = lines;
            }
            if (k != 3) {
                past.clear();
            }
            return lines.size();
        } catch (Wrong wrong) {
            fault = wrong.which;
            place = wrong.place;
            return NONE;
        }
    }

    int fault(int what) {
        return what == 0 ? fault : what == 1 ? place : NONE;
    }

    private int lane(int a, int b) {
        int best = NONE;
        for (String[] t : told.lanes) {
            Set<Integer> ends = Set.of(Integer.parseInt(t[1]), Integer.parseInt(t[4]));
            int n = Integer.parseInt(t[5]);
            if (a != b && ends.contains(a) && ends.contains(b) && (best == NONE || n < best)) {
                best = n;
            }
        }
        return best;
    }

    int of(int s, int what) {
        if (!isShop(s)) {
            return -2;
        }
        Shop shop = scene.shops.get(s);
        switch (what) {
            case 0: return shop.goods;
            case 1: return shop.price;
            case 2: return shop.till;
            case 3: return shop.open ? 1 : 0;
            case 4: return shop.last;
            case 5: return shop.before;
            case 6: return shop.nights;
            case 7:
                int set = 0;
                for (int c = 0; c < scene.buyers.size(); c++) {
                    set += scene.buyers.get(c).in == s ? 1 << c : 0;
                }
                return set;
            default: return in(what, 10, 9 + scene.shops.size()) ? lane(s, what - 10) : -2;
        }
    }

    int who(int c, int what) {
        if (!isBuyer(c)) {
            return -2;
        }
        Buyer b = scene.buyers.get(c);
        switch (what) {
            case 0: return b.purse;
            case 1: return b.polite;
            case 2: return b.in;
            case 3: return b.poles;
            case 4: return b.bought;
            default:
                int n = scene.shops.size();
                return in(what, 10, 9 + n) ? tells("buys", scene, c, what - 10)
                    : in(what, 30, 29 + n) ? tells("yields", scene, c, what - 30)
                    : in(what, 50, 49 + n) ? tells("costs", scene, c, what - 50) : -2;
        }
    }

    int book(int i, int what) {
        return in(i, 0, scene.book.size() - 1) && in(what, 0, 4) ? scene.book.get(i)[what] : NONE;
    }

    int goes(int n, int what) {
        if (!in(n, 1, 60) || !in(what, 0, 3)) {
            return NONE;
        }
        Scene then = scene.copy();
        for (int i = 0; i < n; i++) {
            anHour(then, true);
        }
        int all = 0;
        for (Shop shop : then.shops) {
            all += what == 0 ? shop.till : what == 1 ? shop.goods : what == 3 && !shop.open ? 1 : 0;
        }
        for (Buyer b : then.buyers) {
            all += what == 2 ? b.poles : 0;
        }
        return all;
    }

    private int leastCost(List<Integer> wanted, int from, int used, Map<Long, Integer> known) {
        if (from == wanted.size()) {
            return 0;
        }
        long key = (long) from << 32 | used;
        Integer already = known.get(key);
        if (already != null) {
            return already;
        }
        int best = 1000000;
        for (int c = 0; c < scene.buyers.size(); c++) {
            int cost = tells("costs", scene, c, wanted.get(from));
            if ((used >> c & 1) == 0 && cost <= scene.buyers.get(c).purse) {
                best = Math.min(best, cost + leastCost(wanted, from + 1, used | 1 << c, known));
            }
        }
        known.put(key, best);
        return best;
    }

    int cheaply(int what) {
        List<Integer> wanted = new ArrayList<>();
        for (int s = 0; s < Math.min(8, scene.shops.size()); s++) {
            if (scene.shops.get(s).open && scene.shops.get(s).goods > 0) {
                wanted.add(s);
            }
        }
        Map<Long, Integer> known = new HashMap<>();
        int best = leastCost(wanted, 0, 0, known);
        if (what == 0) {
            return best >= 1000000 ? NONE : best;
        }
        if (best >= 1000000) {
            return NONE;
        }
        int used = 0;
        int rest = best;
        for (int i = 0; i < wanted.size(); i++) {
            for (int c = 0; c < scene.buyers.size(); c++) {
                int cost = tells("costs", scene, c, wanted.get(i));
                if ((used >> c & 1) == 0 && cost <= scene.buyers.get(c).purse
                    && cost + leastCost(wanted, i + 1, used | 1 << c, known) == rest) {
                    if (wanted.get(i) + 10 == what) {
                        return c;
                    }
                    used |= 1 << c;
                    rest -= cost;
                    break;
                }
            }
        }
        return NONE;
    }

    /** By steps from one shop to the next over real lines, with the set of those he has come to. */
    int tramp(int a, int what) {
        if (!isShop(a) || !in(what, 0, 1)) {
            return NONE;
        }
        int n = scene.shops.size();
        int[] least = new int[(1 << n) * 12];
        Arrays.fill(least, Integer.MAX_VALUE);
        PriorityQueue<int[]> queue = new PriorityQueue<>((p, q) -> p[0] - q[0]);
        queue.add(new int[] {0, 1 << a, a});
        least[(1 << a) * 12 + a] = 0;
        int steps = NONE;
        int last = NONE;
        int[][] lanes = new int[n][n];
        for (int[] row : lanes) {
            Arrays.fill(row, NONE);
        }
        for (int i = 0; i < n; i++) {
            for (int j = 0; j < n; j++) {
                lanes[i][j] = lane(i, j);
            }
        }
        while (!queue.isEmpty()) {
            int[] now = queue.poll();
            if (steps != NONE && now[0] > steps) {
                break;
            }
            if (now[0] > least[now[1] * 12 + now[2]]) {
                continue;
            }
            if (now[1] == (1 << n) - 1) {
                steps = now[0];
                last = last == NONE ? now[2] : Math.min(last, now[2]);
                continue;
            }
            for (int s = 0; s < n; s++) {
                if (lanes[now[2]][s] != NONE) {
                    int[] then = {now[0] + lanes[now[2]][s], now[1] | 1 << s, s};
                    if (then[0] < least[then[1] * 12 + s]) {
                        least[then[1] * 12 + s] = then[0];
                        queue.add(then);
                    }
                }
            }
        }
        return what == 0 ? steps : last;
    }

    private static List<Integer> with(List<Integer> row, int v) {
        List<Integer> more = new ArrayList<>(row);
        more.add(v);
        return more;
    }

    int coin(int v) {
        if (v == NONE) {
            told.coins = List.of();
            return 0;
        }
        if (!in(v, 1, 50) || told.coins.size() == 6) {
            return NONE;
        }
        if (!told.coins.contains(v)) {
            told.coins = with(told.coins, v);
        }
        return told.coins.size();
    }

    private int ways(int p, int kinds) {
        if (p == 0) {
            return 1;
        }
        if (p < 0 || kinds == 0) {
            return 0;
        }
        int all = 0;
        for (int left = p; left >= 0; left -= told.coins.get(kinds - 1)) {
            all += kinds == 1 ? left == 0 ? 1 : 0 : ways(left, kinds - 1);
        }
        return all;
    }

    int pays(int p, int what) {
        if (!in(p, 0, 200) || !in(what, 0, 1)) {
            return NONE;
        }
        if (what == 1) {
            return ways(p, told.coins.size());
        }
        Set<Integer> come = new TreeSet<>(List.of(0));
        for (int hands = 0; hands < 300; hands++) {
            if (come.contains(p)) {
                return hands;
            }
            Set<Integer> more = new TreeSet<>(come);
            for (int sum : come) {
                for (int coin : told.coins) {
                    if (Math.abs(sum + coin) < 600) {
                        more.add(sum + coin);
                    }
                    if (Math.abs(sum - coin) < 600) {
                        more.add(sum - coin);
                    }
                }
            }
            if (more.equals(come)) {
                return NONE;
            }
            come = more;
        }
        return NONE;
    }

    boolean told(int a, int b, int c, int d) {
        for (int v : new int[] {a, b, c, d}) {
            if (!in(v, -99, 99)) {
                return false;
            }
        }
        told.stakes = new int[] {a, b, c, d};
        return true;
    }

    int after(int what) {
        if (!in(what, 0, 3)) {
            return -10000;
        }
        int a = told.stakes[0];
        int b = told.stakes[1];
        int c = told.stakes[2];
        int d = told.stakes[3];
        int low = Math.max(Math.min(a, b), Math.min(c, d));
        int high = Math.min(Math.max(a, c), Math.max(b, d));
        int[] fractions;
        if (low == high) {
            fractions = new int[] {low, 1, Math.min(a, b) == low ? 1 : 0, 1};
        } else {
            int s = a + d - b - c;
            fractions = new int[] {a * d - b * c, s, d - c, s};
        }
        int i = what / 2 * 2;
        for (int by = 40000; by > 1; by--) {
            if (fractions[i] % by == 0 && fractions[i + 1] % by == 0) {
                fractions[i] /= by;
                fractions[i + 1] /= by;
                break;
            }
        }
        return fractions[i + 1] < 0 ? -fractions[what] : fractions[what];
    }

    int ring(int n, int k, int i) {
        if (!in(n, 1, 100) || !in(k, 1, 100) || !in(i, 0, n - 1)) {
            return NONE;
        }
        Deque<Integer> there = new ArrayDeque<>();
        for (int j = 0; j < n; j++) {
            there.addLast(j);
        }
        for (int gone = 0;; gone++) {
            for (int j = 1; j < k; j++) {
                there.addLast(there.removeFirst());
            }
            int one = there.removeFirst();
            if (gone == i) {
                return one;
            }
        }
    }

    int errand(int needs, int dueAt) {
        if (needs == NONE) {
            told.errands = List.of();
            return 0;
        }
        if (!in(needs, 1, 20) || !in(dueAt, 0, 99) || told.errands.size() == 10) {
            return NONE;
        }
        told.errands = new ArrayList<>(told.errands);
        told.errands.add(new int[] {needs, dueAt});
        return told.errands.size();
    }

    int served(int what) {
        if (!in(what, 0, 1)) {
            return NONE;
        }
        List<int[]> order = new ArrayList<>(told.errands);
        order.sort((p, q) -> p[1] - q[1]);
        int best = 0;
        int late = 0;
        for (int set = 0; set < 1 << order.size(); set++) {
            int time = 0;
            late = 0;
            for (int i = 0; i < order.size(); i++) {
                if ((set >> i & 1) == 1) {
                    time += order.get(i)[0];
                    late += Math.max(0, time - order.get(i)[1]);
                }
            }
            if (late == 0) {
                best = Math.max(best, Integer.bitCount(set));
            }
        }
        // The last set was all of them.
        return what == 0 ? best : late;
    }

    int lamps(int n, int m, int j) {
        if (!in(n, 1, 500) || !in(m, 0, 500) || j != NONE && !in(j, 1, n)) {
            return NONE;
        }
        int all = 0;
        for (int lamp = j == NONE ? 1 : j; lamp <= (j == NONE ? n : j); lamp++) {
            int turned = 0;
            for (int i = 1; i <= m; i++) {
                turned += lamp % i == 0 ? 1 : 0;
            }
            all += turned % 2;
        }
        return all;
    }

    private static int tell(List<Integer> row, int v, int low, int high, int most) {
        return !in(v, low, high) || row.size() == most ? NONE : row.size() + 1;
    }

    int thread(int v) {
        if (v == NONE) {
            told.threads = List.of();
            return 0;
        }
        int answer = tell(told.threads, v, 1, 99, 8);
        if (answer != NONE) {
            told.threads = with(told.threads, v);
        }
        return answer;
    }

    private static int join(List<Integer> rest, boolean besideOnly, Map<List<Integer>, Integer> known) {
        if (rest.size() < 2) {
            return 0;
        }
        List<Integer> key = new ArrayList<>(rest);
        if (!besideOnly) {
            Collections.sort(key);
        }
        Integer already = known.get(key);
        if (already != null) {
            return already;
        }
        int best = Integer.MAX_VALUE;
        for (int i = 0; i < key.size(); i++) {
            for (int j = i + 1; j < (besideOnly ? Math.min(i + 2, key.size()) : key.size()); j++) {
                List<Integer> less = new ArrayList<>(key);
                int both = less.get(i) + less.remove(j);
                less.set(i, both);
                best = Math.min(best, both + join(less, besideOnly, known));
            }
        }
        known.put(key, best);
        return best;
    }

    int threads(int what) {
        return in(what, 0, 1) ? join(told.threads, what == 1, new HashMap<>()) : NONE;
    }

    int earn(int v) {
        if (v == -1000) {
            told.days = List.of();
            return 0;
        }
        int answer = tell(told.days, v, -99, 99, 12);
        if (answer != NONE) {
            told.days = with(told.days, v);
        }
        return answer;
    }

    int earned(int what) {
        if (told.days.isEmpty() || !in(what, 0, 1)) {
            return -10000;
        }
        int most = -10000;
        int first = 0;
        for (int from = told.days.size() - 1; from >= 0; from--) {
            for (int to = from + 1; to <= told.days.size(); to++) {
                int all = told.days.subList(from, to).stream().mapToInt(Integer::intValue).sum();
                if (all >= most) {
                    most = all;
                    first = from;
                }
            }
        }
        return what == 0 ? most : first;
    }

    int written(int number, int check, int what) {
        if (!in(number, 0, 999999999) || !in(check, 0, 9) || !in(what, 0, 1)) {
            return NONE;
        }
        String digits = new StringBuilder().append(number).reverse().toString();
        int all = 0;
        for (int i = 0; i < digits.length(); i++) {
            int d = digits.charAt(i) - '0';
            all += i % 2 == 1 ? d : 2 * d > 9 ? 2 * d - 9 : 2 * d;
        }
        if (what == 0) {
            return (all + check) % 10 == 0 ? 1 : 0;
        }
        int digit = 0;
        while ((all + digit) % 10 != 0) {
            digit++;
        }
        return digit;
    }

    private static String roman(int y) {
        return "I".repeat(y).replace("IIIII", "V").replace("IIII", "IV").replace("VV", "X").replace("VIV", "IX")
            .replace("XXXXX", "L").replace("XXXX", "XL").replace("LL", "C").replace("LXL", "XC")
            .replace("CCCCC", "D").replace("CCCC", "CD").replace("DD", "M").replace("DCD", "CM");
    }

    private static final String[] ROMANS = new String[4000];

    private static String romanKept(int y) {
        if (ROMANS[y] == null) {
            ROMANS[y] = roman(y);
        }
        return ROMANS[y];
    }

    int year(int y, int what) {
        if (!in(y, 1, 3999)) {
            return NONE;
        }
        String letters = romanKept(y);
        if (what == 0) {
            return letters.length();
        }
        if (in(what, 1, letters.length())) {
            return "IVXLCDM".indexOf(letters.charAt(what - 1));
        }
        if (!in(what, 101, 115)) {
            return NONE;
        }
        int all = 0;
        for (int one = 1; one <= y; one++) {
            all += romanKept(one).length() == what - 100 ? 1 : 0;
        }
        return all;
    }

    int price(int v) {
        if (v == NONE) {
            told.prices = List.of();
            return 0;
        }
        int answer = tell(told.prices, v, 1, 99, 10);
        if (answer != NONE) {
            told.prices = with(told.prices, v);
        }
        return answer;
    }

    int sums(int s) {
        if (!in(s, NONE, 198)) {
            return NONE;
        }
        int all = 0;
        for (int set = 0; set < 1 << told.prices.size(); set++) {
            List<Integer> some = new ArrayList<>();
            for (int i = 0; i < told.prices.size(); i++) {
                if ((set >> i & 1) == 1) {
                    some.add(told.prices.get(i));
                }
            }
            Collections.sort(some);
            if (s == NONE && some.size() == 3 && some.get(0) + some.get(1) == some.get(2)
                || s != NONE && some.size() == 2 && some.get(0) + some.get(1) == s) {
                all++;
            }
        }
        return all;
    }

    private static long dances(int n, int last) {
        long all = n == 0 ? 1 : 0;
        for (int step = 1; step <= 3; step++) {
            if (step != last && step <= n) {
                all += dances(n - step, step);
            }
        }
        return all;
    }

    int waltz(int n) {
        return in(n, 0, 30) ? (int) (dances(n, 0) % 1000000007L) : NONE;
    }

    private int[] couplesFrom(int a) {
        int n = scene.shops.size();
        int[] away = new int[n];
        Arrays.fill(away, NONE);
        away[a] = 0;
        Deque<Integer> queue = new ArrayDeque<>(List.of(a));
        while (!queue.isEmpty()) {
            int s = queue.removeFirst();
            for (int t = 0; t < n; t++) {
                if (lane(s, t) != NONE && away[t] == NONE) {
                    away[t] = away[s] + 1;
                    queue.addLast(t);
                }
            }
        }
        return away;
    }

    int knows(int a, int k) {
        if (a == NONE) {
            int wide = NONE;
            for (int s = 0; s < scene.shops.size(); s++) {
                for (int v : couplesFrom(s)) {
                    if (v == NONE) {
                        return NONE;
                    }
                    wide = Math.max(wide, v);
                }
            }
            return wide;
        }
        if (!isShop(a) || !in(k, 0, 11)) {
            return NONE;
        }
        int all = 0;
        for (int v : couplesFrom(a)) {
            all += v == k ? 1 : 0;
        }
        return all;
    }

    int shutter(int v) {
        if (v == NONE) {
            told.heights = List.of();
            return 0;
        }
        int answer = tell(told.heights, v, 0, 99, 8);
        if (answer != NONE) {
            told.heights = with(told.heights, v);
        }
        return answer;
    }

    int lifted() {
        List<Integer> row = new ArrayList<>(told.heights);
        int lifts = 0;
        boolean again = true;
        while (again) {
            again = false;
            for (int i = 1; i < row.size(); i++) {
                int low = row.get(i) < row.get(i - 1) ? i : i - 1;
                if (Math.abs(row.get(i) - row.get(i - 1)) > 5) {
                    row.set(low, row.get(low) + 1);
                    lifts++;
                    again = true;
                }
            }
        }
        return lifts;
    }

    private static boolean badToHave(List<Integer> heaps) {
        int nim = 0;
        boolean big = false;
        for (int h : heaps) {
            nim ^= h;
            big |= h > 1;
        }
        return big == (nim == 0);
    }

    int game(int what) {
        if (!in(what, 0, 1)) {
            return NONE;
        }
        List<Integer> heaps = new ArrayList<>();
        for (Shop shop : scene.shops) {
            heaps.add(shop.goods);
        }
        for (int s = 0; s < heaps.size(); s++) {
            for (int taken = 1; taken <= heaps.get(s); taken++) {
                List<Integer> then = new ArrayList<>(heaps);
                then.set(s, heaps.get(s) - taken);
                if (badToHave(then)) {
                    return what == 0 ? s : taken;
                }
            }
        }
        return NONE;
    }

    boolean undo() {
        if (past.isEmpty()) {
            return false;
        }
        scene = past.pop();
        return true;
    }

    boolean image(boolean taken) {
        if (taken) {
            imageScene = scene.copy();
            imageTold = told.copy();
            return true;
        }
        if (imageScene == null) {
            return false;
        }
        scene = imageScene.copy();
        told = imageTold.copy();
        past.clear();
        return true;
    }

    int look(int what) {
        int found = 0;
        switch (what) {
            case 0: return scene.shops.size();
            case 1: return scene.buyers.size();
            case 2: return scene.hour;
            case 3: return scene.day;
            case 4:
                int most = scene.shops.stream().mapToInt(s -> s.nights).max().orElse(0);
                for (int s = 0; s < scene.shops.size(); s++) {
                    if (scene.shops.get(s).nights == most) {
                        return s;
                    }
                }
                return NONE;
            case 5:
                for (int s = 0; s < scene.shops.size(); s++) {
                    found += scene.shops.get(s).open ? 1 << s : 0;
                }
                return found;
            case 6: return scene.book.size();
            case 7: return scene.state;
            case 8: return told.law.size();
            case 9: return told.rounds.size();
            case 10: return told.calendar.size();
            case 11: return told.lanes.size();
            case 12: return past.size();
            default: return -100000;
        }
    }

    /** Whether who begins loses, by trying every move; for small heaps. */
    static boolean losesByTrying(List<Integer> heaps, Map<List<Integer>, Boolean> known) {
        List<Integer> key = new ArrayList<>(heaps);
        Collections.sort(key);
        Boolean already = known.get(key);
        if (already != null) {
            return already;
        }
        boolean loses = new HashSet<>(key).equals(Set.of(0)) ? false : true;
        for (int i = 0; i < key.size() && loses; i++) {
            for (int left = 0; left < key.get(i); left++) {
                List<Integer> then = new ArrayList<>(key);
                then.set(i, left);
                if (losesByTrying(then, known)) {
                    loses = false;
                }
            }
        }
        known.put(key, loses);
        return loses;
    }
}
