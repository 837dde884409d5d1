import java.util.ArrayList;
import java.util.HashMap;
import java.util.List;
import java.util.Map;

/**
 * The document once more, as plainly as can be and apart from the class: what is BEST by trying every number
 * at every STEP, what is RIGHT by going through THE BOOK forwards.
 */
final class Model {
    private static final class Battery {
        int kind, size, charge, in, out, loss, wear, end;
        int warranty = 100000;
        int[] plan = new int[36];

        boolean isQuick() {
            return kind == 1 || kind == 2;
        }

        int top() {
            return kind == 3 || kind == 4 ? Math.floorDiv(size * 4, 5) : size;
        }

        int bottom() {
            return kind == 4 ? Math.floorDiv(size, 10) : 0;
        }

        int rateIn() {
            return isQuick() ? 2 * in : in;
        }

        int rateOut() {
            return isQuick() ? 2 * out : out;
        }

        int countingLoss() {
            return kind == 2 ? Math.floorDiv(loss, 2) : loss;
        }

        long money(int d, long p) {
            if (d > 0) {
                return -p * (d + Math.floorDiv(d * countingLoss() + 99, 100));
            }
            return d < 0 ? (p - wear) * -d : 0;
        }
    }

    private record Bid(int first, int last, int amount, int limit) {
    }

    private static final class Row {
        int store, world, step, number;
        long money;
    }

    /** The greatest MONEY from a STEP and a CHARGE on (null: none), and how many PLANS bring it. */
    private record Outcome(Long greatest, long ways) {
    }

    private static final int[] LIMITS = {100, 1000, 10000};

    private int steps = 24;
    private final boolean[] dark = new boolean[36];
    private final int[] kept = new int[36];
    private final int[][] prices = new int[4][];
    private final int[] widths = new int[4];
    private final Battery[] stores = new Battery[4];
    private final List<Bid> bids = new ArrayList<>();
    private final Integer[] readings = new Integer[36];
    private final List<Row> book = new ArrayList<>();

    long answer(String name, int... a) {
        switch (name) {
            case "time": return time(a[0]);
            case "dark": return dark(a[0], a[1]);
            case "keep": return keep(a[0], a[1]);
            case "world": return world(a[0], a[1], a[2]);
            case "lose": return lose(a[0]);
            case "price": return price(a[0], a[1], a[2]);
            case "copy": return copy(a[0], a[1], a[2], a[3], a[4]);
            case "told": return isWorld(a[0]) && in(a[1], 0, 35) ? priceOf(a[0], a[1]) : Due.BAD;
            case "store": return store(a);
            case "bid": return bid(a[0], a[1], a[2], a[3]);
            case "unbid": return unbid();
            case "taken": return in(a[0], 0, bids.size() - 1) && isWorld(a[1]) ? one(isTaken(bids.get(a[0]), a[1])) : Due.BAD;
            case "wanted": return !isWorld(a[0]) ? Due.BAD : in(a[1], 0, steps - 1) ? wantedAt(a[0], a[1]) : Due.INDEX;
            case "meter": return meter(a[0], a[1]);
            case "counts": return in(a[0], 0, 35) ? counting(a[0]) : Due.BAD;
            case "row": return row(a[0], a[1]);
            case "forge": return forge(a[0], a[1], a[2]);
            case "check": return check();
            case "shut": return shut();
            case "count": return count(a[0]);
            default: return ofAStore(name, a);
        }
    }

    private long ofAStore(String name, int[] a) {
        if (!in(a[0], 0, 3) || !isGoodSecond(name, a)) {
            return Due.BAD;
        }
        Battery b = stores[a[0]];
        if (b == null) {
            return Due.NO;
        }
        switch (name) {
            case "charge": return charge(b, a[1]);
            case "end": return end(b, a[1]);
            case "about": return about(b, a[1]);
            case "isOf": return one(a[1] == 0 || a[1] == b.kind || a[1] == 1 && b.kind == 2 || a[1] == 3 && b.kind == 4);
            case "put": return put(b, a[1], a[2]);
            case "planned": return in(a[1], 0, steps - 1) ? b.plan[a[1]] : Due.INDEX;
            case "behind": return in(a[1], -1, steps - 1) ? behind(b, a[1]) : Due.INDEX;
            case "why": return why(b);
            case "money": return money(b, a[1]);
            case "worst": return worst(b, a[1]);
            case "best": return best(b, a[1]);
            case "many": return many(b, a[1]);
            case "value": return value(b, a[1], a[2], a[3]);
            case "fill": return fill(b, a[1]);
            case "live": return live(b, a[0], a[1]);
            case "warrant": return warrant(b, a[1]);
            case "voided": return voided(b, a[0]);
            default: throw new IllegalArgumentException(name);
        }
    }

    /** Arguments that are asked ahead of NO: MISSING. */
    private static boolean isGoodSecond(String name, int[] a) {
        switch (name) {
            case "end": return in(a[1], 0, 60);
            case "about": return in(a[1], 0, 10);
            case "isOf": return in(a[1], 0, 4);
            case "money": case "fill": case "live": return isWorld(a[1]);
            case "worst": case "best": case "many": case "value": return in(a[1], 1, 15);
            case "warrant": return in(a[1], 0, 100000);
            default: return true;
        }
    }

    private static boolean in(int v, int least, int most) {
        return least <= v && v <= most;
    }

    private static boolean isWorld(int world) {
        return in(world, 0, 3);
    }

    private static long one(boolean yes) {
        return yes ? 1 : 0;
    }

    private long time(int n) {
        if (!in(n, 1, 36)) {
            return Due.BAD;
        }
        steps = n;
        for (Battery b : stores) {
            if (b != null) {
                b.plan = new int[36];
            }
        }
        long had = bids.size();
        bids.clear();
        return had;
    }

    private long dark(int step, int on) {
        if (!in(step, 0, 35) || !in(on, 0, 1)) {
            return Due.BAD;
        }
        long was = one(dark[step]);
        dark[step] = on == 1;
        return was;
    }

    private long keep(int step, int v) {
        if (!in(step, 0, 35) || !in(v, 0, 10)) {
            return Due.BAD;
        }
        long was = kept[step];
        kept[step] = v;
        return was;
    }

    private long world(int world, int width, int n) {
        if (!isWorld(world) || !in(width, 0, 2) || n > 36) {
            return Due.BAD;
        }
        if (n < 0) {
            return Due.SIZE;
        }
        prices[world] = new int[n];
        widths[world] = width;
        return n;
    }

    private long lose(int world) {
        if (!isWorld(world)) {
            return Due.BAD;
        }
        if (prices[world] == null) {
            return Due.NOTHING;
        }
        long had = prices[world].length;
        prices[world] = null;
        return had;
    }

    private long price(int world, int place, int v) {
        if (!isWorld(world)) {
            return Due.BAD;
        }
        if (prices[world] == null) {
            return Due.NOTHING;
        }
        if (!in(place, 0, prices[world].length - 1)) {
            return Due.INDEX;
        }
        if (Math.abs((long) v) > LIMITS[widths[world]]) {
            return Due.BAD;
        }
        long was = prices[world][place];
        prices[world][place] = v;
        return was;
    }

    private long copy(int from, int place, int to, int at, int many) {
        if (!isWorld(from) || !isWorld(to)) {
            return Due.BAD;
        }
        if (prices[from] == null || prices[to] == null) {
            return Due.NOTHING;
        }
        if (widths[from] != widths[to]) {
            return Due.NO;
        }
        boolean below = place < 0 || at < 0 || many < 0;
        if (below || (long) place + many > prices[from].length || (long) at + many > prices[to].length) {
            return Due.INDEX;
        }
        int[] were = prices[from].clone();
        for (int i = 0; i < many; i++) {
            prices[to][at + i] = were[place + i];
        }
        return many;
    }

    private long priceOf(int world, int step) {
        return prices[world] == null || step >= prices[world].length ? 0 : prices[world][step];
    }

    private long store(int[] a) {
        Battery b = new Battery();
        b.kind = a[1];
        b.size = a[2];
        b.in = Math.floorDiv(a[3], 21);
        b.out = Math.floorMod(a[3], 21);
        b.loss = Math.floorDiv(a[4], 101);
        b.wear = Math.floorMod(a[4], 101);
        boolean good = in(a[0], 0, 3) && in(b.kind, 0, 4) && in(b.size, 1, 60) && in(b.in, 1, 20) && in(b.out, 1, 20)
            && in(b.loss, 0, 50);
        if (!good) {
            return Due.BAD;
        }
        b.charge = b.bottom();
        stores[a[0]] = b;
        return 0;
    }

    private static long charge(Battery b, int v) {
        if (!in(v, b.bottom(), b.top())) {
            return Due.BAD;
        }
        long was = b.charge;
        b.charge = v;
        return was;
    }

    private static long end(Battery b, int v) {
        long was = b.end;
        b.end = v;
        return was;
    }

    private static long about(Battery b, int what) {
        return new int[] {b.kind, b.size, b.charge, b.rateIn(), b.rateOut(), b.countingLoss(), b.wear, b.bottom(), b.top(), b.end,
            b.warranty}[what];
    }

    private long put(Battery b, int step, int d) {
        if (!in(step, 0, steps - 1)) {
            return Due.INDEX;
        }
        if (!in(d, -100, 100)) {
            return Due.BAD;
        }
        long was = b.plan[step];
        b.plan[step] = d;
        return was;
    }

    private static int behind(Battery b, int step) {
        int c = b.charge;
        for (int t = 0; t <= step; t++) {
            c += b.plan[t];
        }
        return c;
    }

    /** The number of the first rule that d at STEP t, from a CHARGE c, is against; 0: none. */
    private int rule(Battery b, int t, int c, int d) {
        int r = dark[t] ? 0 : kept[t];
        if (dark[t] && d != 0) {
            return 1;
        }
        if (d != 0 && (d > b.rateIn() - r || d < r - b.rateOut())) {
            return 2;
        }
        if (c + d < b.bottom() + r) {
            return 3;
        }
        if (c + d > b.top() - r) {
            return 4;
        }
        return t == steps - 1 && c + d < b.end ? 5 : 0;
    }

    private long why(Battery b) {
        for (int t = 0; t < steps; t++) {
            int rule = rule(b, t, behind(b, t - 1), b.plan[t]);
            if (rule != 0) {
                return 10 * t + rule;
            }
        }
        return Due.NONE;
    }

    private long money(Battery b, int world) {
        long sum = 0;
        for (int t = 0; t < steps; t++) {
            sum += b.money(b.plan[t], priceOf(world, t));
        }
        return sum;
    }

    private long worst(Battery b, int bits) {
        Long least = null;
        for (int w = 0; w < 4; w++) {
            if ((bits & 1 << w) != 0 && (least == null || money(b, w) < least)) {
                least = money(b, w);
            }
        }
        return least;
    }

    private long moneyIn(Battery b, int bits, int t, int d) {
        long sum = 0;
        for (int w = 0; w < 4; w++) {
            sum += (bits & 1 << w) != 0 ? b.money(d, priceOf(w, t)) : 0;
        }
        return sum;
    }

    private Outcome outcome(Battery b, int bits, int t, int c, Map<Integer, Outcome> known) {
        if (t == steps) {
            return c < b.end ? new Outcome(null, 0) : new Outcome(0L, 1);
        }
        Outcome found = known.get(100 * t + c);
        if (found != null) {
            return found;
        }
        Long greatest = null;
        long ways = 0;
        for (int d = -60; d <= 60; d++) {
            if (rule(b, t, c, d) == 0) {
                Outcome rest = outcome(b, bits, t + 1, c + d, known);
                if (rest.greatest() != null) {
                    long sum = moneyIn(b, bits, t, d) + rest.greatest();
                    if (greatest == null || sum > greatest) {
                        greatest = sum;
                        ways = 0;
                    }
                    ways += sum == greatest ? rest.ways() : 0;
                }
            }
        }
        Outcome made = new Outcome(greatest, Math.min(ways, 1000000000L));
        known.put(100 * t + c, made);
        return made;
    }

    private long best(Battery b, int bits) {
        Map<Integer, Outcome> known = new HashMap<>();
        Long greatest = outcome(b, bits, 0, b.charge, known).greatest();
        if (greatest == null) {
            return Due.NONE;
        }
        int c = b.charge;
        for (int t = 0; t < steps; t++) {
            Long due = outcome(b, bits, t, c, known).greatest();
            int d = -60;
            while (rule(b, t, c, d) != 0 || !isThrough(due, moneyIn(b, bits, t, d), outcome(b, bits, t + 1, c + d, known))) {
                d++;
            }
            b.plan[t] = d;
            c += d;
        }
        return greatest;
    }

    private static boolean isThrough(Long due, long money, Outcome rest) {
        return rest.greatest() != null && money + rest.greatest() == due;
    }

    private long many(Battery b, int bits) {
        return outcome(b, bits, 0, b.charge, new HashMap<>()).ways();
    }

    private long value(Battery b, int bits, int t, int c) {
        if (!in(t, 0, steps) || !in(c, 0, b.size)) {
            return Due.BAD;
        }
        Long greatest = outcome(b, bits, t, c, new HashMap<>()).greatest();
        return greatest == null ? Due.NONE : greatest;
    }

    private long bid(int first, int last, int amount, int limit) {
        boolean good = first >= 0 && first <= last && last < steps && amount != 0 && in(amount, -20, 20) && in(limit, -10000, 10000);
        if (!good) {
            return Due.BAD;
        }
        if (bids.size() == 12) {
            return Due.FULL;
        }
        bids.add(new Bid(first, last, amount, limit));
        return bids.size() - 1;
    }

    private long unbid() {
        if (bids.isEmpty()) {
            return Due.NO;
        }
        bids.remove(bids.size() - 1);
        return bids.size();
    }

    private boolean isTaken(Bid bid, int world) {
        long over = 0;
        for (int t = bid.first(); t <= bid.last(); t++) {
            over += priceOf(world, t) - bid.limit();
        }
        return bid.amount() < 0 && over >= 0 || bid.amount() > 0 && over <= 0;
    }

    private int wantedAt(int world, int step) {
        int sum = 0;
        for (Bid bid : bids) {
            sum += bid.first() <= step && step <= bid.last() && isTaken(bid, world) ? bid.amount() : 0;
        }
        return sum;
    }

    /** Goes from what is WANTED towards 0 until it can be DONE. */
    private long fill(Battery b, int world) {
        int c = b.charge;
        long missed = 0;
        for (int t = 0; t < steps; t++) {
            int d = wantedAt(world, t);
            while (d != 0 && (dark[t] || d > b.rateIn() || d < -b.rateOut() || !in(c + d, b.bottom(), b.top()))) {
                d += d > 0 ? -1 : 1;
                missed++;
            }
            b.plan[t] = d;
            c += d;
        }
        return missed;
    }

    private long meter(int step, int v) {
        if (!in(step, 0, 35) || !in(v, -1001, 1000)) {
            return Due.BAD;
        }
        long was = readings[step] == null ? -1001 : readings[step];
        readings[step] = v == -1001 ? null : v;
        return was;
    }

    private long counting(int step) {
        if (readings[step] != null) {
            return readings[step];
        }
        Integer a = null;
        Integer b = null;
        for (int t = 0; t < 36; t++) {
            if (readings[t] != null) {
                a = t < step ? readings[t] : a;
                b = t > step && b == null ? readings[t] : b;
            }
        }
        if (a != null && b != null) {
            return Math.floorDiv(a + b, 2);
        }
        return a != null ? a : b != null ? b : 0;
    }

    private long live(Battery b, int store, int world) {
        if (why(b) != Due.NONE) {
            return Due.NO;
        }
        if (book.size() + steps > 150) {
            return Due.FULL;
        }
        for (int t = 0; t < steps; t++) {
            Row row = new Row();
            row.store = store;
            row.world = world;
            row.step = t;
            row.number = b.plan[t];
            row.money = b.money(b.plan[t], priceOf(world, t));
            book.add(row);
        }
        b.charge = behind(b, steps - 1);
        return book.size();
    }

    private long row(int i, int what) {
        if (!in(i, 0, book.size() - 1) || !in(what, 0, 4)) {
            return Due.BAD;
        }
        Row row = book.get(i);
        return new long[] {row.store, row.world, row.step, row.number, row.money}[what];
    }

    private long forge(int i, int what, int v) {
        if (!in(i, 0, book.size() - 1) || !in(what, 3, 4) || what == 3 && !in(v, -100, 100)) {
            return Due.BAD;
        }
        long was = row(i, what);
        if (what == 3) {
            book.get(i).number = v;
        } else {
            book.get(i).money = v;
        }
        return was;
    }

    private long check() {
        for (int i = 0; i < book.size(); i++) {
            Row row = book.get(i);
            Battery b = stores[row.store];
            if (b != null) {
                int ahead = b.charge;
                for (int j = i; j < book.size(); j++) {
                    ahead -= book.get(j).store == row.store ? book.get(j).number : 0;
                }
                if (row.money != b.money(row.number, priceOf(row.world, row.step)) || !in(ahead, 0, b.size)) {
                    return i;
                }
            }
        }
        return Due.NONE;
    }

    private long shut() {
        long had = book.size();
        book.clear();
        return had;
    }

    private static long warrant(Battery b, int v) {
        long was = b.warranty;
        b.warranty = v;
        return was;
    }

    private long voided(Battery b, int store) {
        long sum = 0;
        for (int i = 0; i < book.size(); i++) {
            sum += book.get(i).store == store ? Math.abs(book.get(i).number) : 0;
            if (sum > b.warranty) {
                return i;
            }
        }
        return Due.NONE;
    }

    private long count(int what) {
        long sum = 0;
        switch (what) {
            case 0:
                for (Battery b : stores) {
                    sum += one(b != null);
                }
                return sum;
            case 1: return steps;
            case 2: return bids.size();
            case 3: return book.size();
            case 4:
                for (int[] row : prices) {
                    sum += one(row != null);
                }
                return sum;
            case 5:
                for (Integer reading : readings) {
                    sum += one(reading != null);
                }
                return sum;
            case 6:
                for (int t = 0; t < steps; t++) {
                    sum += one(dark[t]);
                }
                return sum;
            case 7:
                for (Row row : book) {
                    sum += row.money;
                }
                return sum;
            default: return Due.BAD;
        }
    }
}
