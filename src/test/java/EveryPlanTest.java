import java.util.Arrays;

/** Promises 18, 19, 21, 22, 23, against every PLAN that there is, tried one by one. */
public final class EveryPlanTest {
    private static final Due due = new Due();
    /** Wider than any RATE that is used here, so that the RATES are asked too. */
    private static final int REACH = 5;

    private final Lcg lcg;
    private final HourStore x = new HourStore();
    private final int steps;
    private final int kind;
    private final int size;
    private final int in;
    private final int out;
    private final int loss;
    private final int wear;
    private final int end;
    private final int charge;
    private final boolean[] dark;
    private final int[] kept;
    private final int[][] prices;

    private int from;
    private int worlds;
    private int[] plan;
    private long greatest;
    private long many;
    private int[] first;

    public static void main(String[] args) {
        for (int seed = 1; seed <= 400; seed++) {
            new EveryPlanTest(seed).compare("seed " + seed);
        }
        due.end();
    }

    private EveryPlanTest(int seed) {
        lcg = new Lcg(seed);
        steps = lcg.from(1, 4);
        kind = lcg.from(0, 4);
        size = lcg.from(0, 2) == 0 ? lcg.from(10, 13) : lcg.from(1, 8);
        int told = kind == 1 || kind == 2 ? 2 : 4;
        in = lcg.from(1, told);
        out = lcg.from(1, told);
        loss = lcg.from(0, 50);
        wear = lcg.from(0, 3) == 0 ? lcg.from(0, 100) : lcg.from(0, 2);
        end = lcg.from(0, 2) == 0 ? lcg.from(0, size) : 0;
        charge = lcg.from(floor(), top());
        dark = new boolean[steps];
        kept = new int[steps];
        prices = new int[4][steps];
        set();
    }

    private void set() {
        x.time(steps);
        x.store(1, kind, size, 21 * in + out, 101 * loss + wear);
        x.charge(1, charge);
        x.end(1, end);
        int reach = lcg.from(0, 1) == 0 ? 2 : 100;
        for (int w = 0; w < 3; w++) {
            x.world(w, 0, steps);
        }
        for (int t = 0; t < steps; t++) {
            dark[t] = lcg.from(0, 5) == 0;
            kept[t] = lcg.from(0, 2) == 0 ? lcg.from(0, 5) : 0;
            x.dark(t, dark[t] ? 1 : 0);
            x.keep(t, kept[t]);
            for (int w = 0; w < 3; w++) {
                prices[w][t] = lcg.from(-reach / 2, reach);
                x.price(w, t, prices[w][t]);
            }
        }
    }

    private int floor() {
        return kind == 4 ? size / 10 : 0;
    }

    private int top() {
        return kind >= 3 ? size * 4 / 5 : size;
    }

    /** WHY a PLAN from a STEP on is not ALLOWED, as the document's part 2 has it; -1: it is. */
    private int why(int t, int c) {
        int times = kind == 1 || kind == 2 ? 2 : 1;
        for (; t < steps; t++) {
            int r = dark[t] ? 0 : kept[t];
            int d = plan[t];
            c += d;
            if (dark[t] && d != 0) {
                return 10 * t + 1;
            }
            if (d != 0 && (d > times * in - r || d < r - times * out)) {
                return 10 * t + 2;
            }
            if (c < floor() + r) {
                return 10 * t + 3;
            }
            if (c > top() - r) {
                return 10 * t + 4;
            }
        }
        return c < end ? 10 * (steps - 1) + 5 : -1;
    }

    private long money(int world) {
        long sum = 0;
        int counting = kind == 2 ? loss / 2 : loss;
        for (int t = from; t < steps; t++) {
            long p = prices[world][t];
            int d = plan[t];
            sum += d > 0 ? -p * (d + Math.floorDiv(d * counting + 99, 100)) : (p - wear) * -d;
        }
        return sum;
    }

    private void tryAll(int t, int c) {
        if (t < steps) {
            for (int d = -REACH; d <= REACH; d++) {
                plan[t] = d;
                tryAll(t + 1, c);
            }
            return;
        }
        if (why(from, c) != -1) {
            return;
        }
        long sum = 0;
        for (int w = 0; w < 4; w++) {
            sum += (worlds >> w & 1) == 1 ? money(w) : 0;
        }
        if (many == 0 || sum > greatest) {
            greatest = sum;
            many = 0;
            first = plan.clone();
        }
        many += sum == greatest ? 1 : 0;
    }

    private void findAll(int newFrom, int newWorlds, int c) {
        from = newFrom;
        worlds = newWorlds;
        plan = new int[steps];
        many = 0;
        greatest = Due.NONE;
        first = null;
        tryAll(from, c);
    }

    private void compare(String seed) {
        findAll(0, lcg.from(1, 15), charge);
        String what = seed + ", worlds " + worlds;
        due.is(what + ": many", x.many(1, worlds), many);
        int[] put = new int[steps];
        for (int t = 0; t < steps; t++) {
            put[t] = lcg.from(-REACH, REACH);
            x.put(1, t, put[t]);
        }
        plan = put;
        int why = why(0, charge);
        due.is(what + ": why " + Arrays.toString(put), x.why(1), why == -1 ? Due.NONE : why);
        due.is(what + ": money", x.money(1, 2), money(2));
        due.is(what + ": best", x.best(1, worlds), greatest);
        int[] left = first == null ? put : first;
        for (int t = 0; t < steps; t++) {
            due.is(what + ": planned " + t, x.planned(1, t), left[t]);
        }
        if (first != null) {
            due.is(what + ": why of the best", x.why(1), Due.NONE);
        }
        for (int i = 0; i < 6; i++) {
            int t = lcg.from(steps == 4 ? 1 : 0, steps);
            int c = lcg.from(0, size);
            findAll(t, worlds, c);
            due.is(what + ": value at " + t + " with " + c, x.value(1, worlds, t, c), greatest);
        }
    }
}
