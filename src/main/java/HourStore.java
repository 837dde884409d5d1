import java.util.Arrays;

/**
 * Batteries that buy and sell step by step at the prices of several worlds.
 * The words in capitals are those of the document (shared/DOC.md, "Terms").
 * Every row is made with the object and used again, so that no later call makes one.
 */
public final class HourStore {
    public static final long BAD = -9000000000000000001L, NO = -9000000000000000002L, FULL = -9000000000000000003L, NONE = -9000000000000000005L, NOTHING = -9000000000000000011L, INDEX = -9000000000000000013L, SIZE = -9000000000000000014L;

    /** Not one of the answers that refuse a call. */
    private static final long FINE = 0L;

    private static final int MOST_STEPS = 36;
    private static final int FIRST_STEPS = 24;
    private static final int MOST_KEPT = 10;
    private static final int WORLDS = 4;
    private static final int ALL_WORLDS = 15;
    private static final int STORES = 4;
    private static final int MOST_BIDS = 12;
    private static final int MOST_ROWS = 150;

    /** The greatest size of a price, by WIDTH. */
    private static final int[] PRICE_LIMITS = {100, 1000, 10000};

    private static final int STORE = 0;
    private static final int QUICK = 1;
    private static final int WARM = 2;
    private static final int OLD = 3;
    private static final int DEEP = 4;

    private static final int MOST_SIZE = 60;
    private static final int MOST_TOLD_RATE = 20;
    private static final int MOST_RATE = 2 * MOST_TOLD_RATE;
    private static final int RATES_BASE = 21;
    private static final int MOST_LOSS = 50;
    private static final int MOST_WEAR = 100;
    private static final int WEAR_BASE = 101;
    private static final int MOST_END = 60;
    private static final int MOST_NUMBER = 100;
    private static final int MOST_WARRANTY = 100000;

    private static final int MOST_AMOUNT = 20;
    private static final int MOST_LIMIT = 10000;
    private static final int MOST_READING = 1000;
    private static final int NO_READING = -1001;

    private static final int CHARGES = MOST_SIZE + 1;
    private static final long MOST_MANY = 1000000000L;

    private static final int ROW_NUMBER = 3;
    private static final int ROW_MONEY = 4;
    private static final int LAST_OF_STORE = 10;
    private static final int LAST_COUNT = 7;

    private final Line line;
    private final Prices[] worlds;
    private final Battery[] batteries;
    private final Planner planner;
    private final Bids bids;
    private final Meters meters;
    private final Book book;

    public HourStore() {
        line = new Line();
        worlds = new Prices[WORLDS];
        for (int w = 0; w < WORLDS; w++) {
            worlds[w] = new Prices();
        }
        batteries = new Battery[STORES];
        for (int s = 0; s < STORES; s++) {
            batteries[s] = new Battery();
        }
        planner = new Planner();
        bids = new Bids();
        meters = new Meters();
        book = new Book();
    }

    // ---- time and prices

    public long time(int n) {
        if (!within(n, 1, MOST_STEPS)) {
            return BAD;
        }
        int had = bids.size;
        line.steps = n;
        bids.size = 0;
        for (int s = 0; s < STORES; s++) {
            batteries[s].clearPlan();
        }
        return had;
    }

    public long dark(int step, int on) {
        if (!isAnyStep(step) || !within(on, 0, 1)) {
            return BAD;
        }
        boolean was = line.dark[step];
        line.dark[step] = on == 1;
        return oneIf(was);
    }

    public long keep(int step, int v) {
        if (!isAnyStep(step) || !within(v, 0, MOST_KEPT)) {
            return BAD;
        }
        int was = line.kept[step];
        line.kept[step] = v;
        return was;
    }

    public long world(int world, int width, int n) {
        if (!isWorld(world) || !within(width, 0, PRICE_LIMITS.length - 1) || n > MOST_STEPS) {
            return BAD;
        }
        if (n < 0) {
            return SIZE;
        }
        worlds[world].renew(width, n);
        return n;
    }

    public long lose(int world) {
        if (!isWorld(world)) {
            return BAD;
        }
        Prices prices = worlds[world];
        if (!prices.there) {
            return NOTHING;
        }
        prices.there = false;
        return prices.places;
    }

    public long price(int world, int place, int v) {
        if (!isWorld(world)) {
            return BAD;
        }
        Prices prices = worlds[world];
        if (!prices.there) {
            return NOTHING;
        }
        if (!within(place, 0, prices.places - 1)) {
            return INDEX;
        }
        if (!prices.fits(v)) {
            return BAD;
        }
        int was = prices.cells[place];
        prices.cells[place] = v;
        return was;
    }

    public long copy(int from, int place, int to, int at, int many) {
        if (!isWorld(from) || !isWorld(to)) {
            return BAD;
        }
        Prices source = worlds[from];
        Prices target = worlds[to];
        if (!source.there || !target.there) {
            return NOTHING;
        }
        if (source.width != target.width) {
            return NO;
        }
        if (!source.hasRun(place, many) || !target.hasRun(at, many)) {
            return INDEX;
        }
        System.arraycopy(source.cells, place, target.cells, at, many);
        return many;
    }

    public long told(int world, int step) {
        if (!isWorld(world) || !isAnyStep(step)) {
            return BAD;
        }
        return worlds[world].priceOf(step);
    }

    // ---- stores

    public long store(int store, int kind, int size, int ratesInOut, int lossWear) {
        if (!isBattery(store) || !isKind(kind) || !within(size, 1, MOST_SIZE)) {
            return BAD;
        }
        if (!areRates(ratesInOut) || !within(lossWear, 0, WEAR_BASE * MOST_LOSS + MOST_WEAR)) {
            return BAD;
        }
        Battery battery = batteries[store];
        battery.renew(kind, size);
        battery.setRates(ratesInOut / RATES_BASE, ratesInOut % RATES_BASE);
        battery.setLosses(lossWear / WEAR_BASE, lossWear % WEAR_BASE);
        return 0;
    }

    public long charge(int store, int v) {
        long refused = refusal(store, true);
        if (refused != FINE) {
            return refused;
        }
        Battery battery = batteries[store];
        if (!within(v, battery.lowest, battery.highest)) {
            return BAD;
        }
        int was = battery.charge;
        battery.charge = v;
        return was;
    }

    public long end(int store, int v) {
        long refused = refusal(store, within(v, 0, MOST_END));
        if (refused != FINE) {
            return refused;
        }
        int was = batteries[store].end;
        batteries[store].end = v;
        return was;
    }

    public long about(int store, int what) {
        long refused = refusal(store, within(what, 0, LAST_OF_STORE));
        if (refused != FINE) {
            return refused;
        }
        return batteries[store].fact(what);
    }

    public long isOf(int store, int kind) {
        long refused = refusal(store, isKind(kind));
        if (refused != FINE) {
            return refused;
        }
        return oneIf(batteries[store].isA(kind));
    }

    // ---- plans

    public long put(int store, int step, int d) {
        long refused = refusal(store, true);
        if (refused != FINE) {
            return refused;
        }
        if (!isStepNow(step)) {
            return INDEX;
        }
        if (!within(d, -MOST_NUMBER, MOST_NUMBER)) {
            return BAD;
        }
        int was = batteries[store].plan[step];
        batteries[store].plan[step] = d;
        return was;
    }

    public long planned(int store, int step) {
        long refused = refusal(store, true);
        if (refused != FINE) {
            return refused;
        }
        if (!isStepNow(step)) {
            return INDEX;
        }
        return batteries[store].plan[step];
    }

    public long behind(int store, int step) {
        long refused = refusal(store, true);
        if (refused != FINE) {
            return refused;
        }
        if (step != -1 && !isStepNow(step)) {
            return INDEX;
        }
        return batteries[store].chargeBehind(step);
    }

    public long why(int store) {
        long refused = refusal(store, true);
        if (refused != FINE) {
            return refused;
        }
        return line.firstFault(batteries[store]);
    }

    public long money(int store, int world) {
        long refused = refusal(store, isWorld(world));
        if (refused != FINE) {
            return refused;
        }
        return batteries[store].planMoney(worlds[world], line.steps);
    }

    public long worst(int store, int worlds) {
        long refused = refusal(store, areWorlds(worlds));
        if (refused != FINE) {
            return refused;
        }
        long least = NONE;
        for (int w = 0; w < WORLDS; w++) {
            if (hasWorld(worlds, w)) {
                long money = batteries[store].planMoney(this.worlds[w], line.steps);
                least = least == NONE ? money : Math.min(least, money);
            }
        }
        return least;
    }

    public long best(int store, int worlds) {
        long refused = refusal(store, areWorlds(worlds));
        if (refused != FINE) {
            return refused;
        }
        Battery battery = batteries[store];
        planner.sumPrices(this.worlds, worlds);
        planner.solve(line, battery, 0);
        long greatest = planner.worthOf(0, battery.charge);
        if (greatest != NONE) {
            planner.writeFirstBest(line, battery);
        }
        return greatest;
    }

    public long many(int store, int worlds) {
        long refused = refusal(store, areWorlds(worlds));
        if (refused != FINE) {
            return refused;
        }
        Battery battery = batteries[store];
        planner.sumPrices(this.worlds, worlds);
        planner.solve(line, battery, 0);
        if (planner.worthOf(0, battery.charge) == NONE) {
            return 0;
        }
        return planner.waysOfBest(line, battery);
    }

    public long value(int store, int worlds, int t, int c) {
        long refused = refusal(store, areWorlds(worlds));
        if (refused != FINE) {
            return refused;
        }
        Battery battery = batteries[store];
        if (!within(t, 0, line.steps) || !within(c, 0, battery.size)) {
            return BAD;
        }
        planner.sumPrices(this.worlds, worlds);
        planner.solve(line, battery, t);
        return planner.worthOf(t, c);
    }

    // ---- bids

    public long bid(int first, int last, int amount, int limit) {
        if (!isStepNow(first) || !isStepNow(last) || first > last) {
            return BAD;
        }
        if (amount == 0 || !within(amount, -MOST_AMOUNT, MOST_AMOUNT) || !within(limit, -MOST_LIMIT, MOST_LIMIT)) {
            return BAD;
        }
        if (bids.size >= MOST_BIDS) {
            return FULL;
        }
        return bids.add(first, last, amount, limit);
    }

    public long unbid() {
        if (bids.size <= 0) {
            return NO;
        }
        bids.size--;
        return bids.size;
    }

    public long taken(int bid, int world) {
        if (!within(bid, 0, bids.size - 1) || !isWorld(world)) {
            return BAD;
        }
        return oneIf(bids.isTaken(bid, worlds[world]));
    }

    public long wanted(int world, int step) {
        if (!isWorld(world)) {
            return BAD;
        }
        if (!isStepNow(step)) {
            return INDEX;
        }
        return bids.sumWanted(worlds[world], step);
    }

    public long fill(int store, int world) {
        long refused = refusal(store, isWorld(world));
        if (refused != FINE) {
            return refused;
        }
        Battery battery = batteries[store];
        int charge = battery.charge;
        long shortInAll = 0;
        for (int t = 0; t < line.steps; t++) {
            int wish = bids.sumWanted(worlds[world], t);
            int done = line.dark[t] ? 0 : battery.possible(wish, charge);
            battery.plan[t] = done;
            charge += done;
            shortInAll += Math.abs(wish - done);
        }
        return shortInAll;
    }

    // ---- meters

    public long meter(int step, int v) {
        if (!isAnyStep(step) || !within(v, NO_READING, MOST_READING)) {
            return BAD;
        }
        int was = meters.readings[step];
        meters.readings[step] = v;
        return was;
    }

    public long counts(int step) {
        if (!isAnyStep(step)) {
            return BAD;
        }
        return meters.counting(step);
    }

    // ---- the book

    public long live(int store, int world) {
        long refused = refusal(store, isWorld(world));
        if (refused != FINE) {
            return refused;
        }
        Battery battery = batteries[store];
        if (line.firstFault(battery) != NONE) {
            return NO;
        }
        if (book.rows + line.steps > MOST_ROWS) {
            return FULL;
        }
        for (int t = 0; t < line.steps; t++) {
            int d = battery.plan[t];
            book.add(store, world, t, d, battery.moneyOf(d, worlds[world].priceOf(t)));
        }
        battery.charge = battery.chargeBehind(line.steps - 1);
        return book.rows;
    }

    public long row(int i, int what) {
        if (!within(i, 0, book.rows - 1) || !within(what, 0, ROW_MONEY)) {
            return BAD;
        }
        return book.fact(i, what);
    }

    public long forge(int i, int what, int v) {
        if (!within(i, 0, book.rows - 1) || !within(what, ROW_NUMBER, ROW_MONEY)) {
            return BAD;
        }
        if (what == ROW_NUMBER && !within(v, -MOST_NUMBER, MOST_NUMBER)) {
            return BAD;
        }
        long was = book.fact(i, what);
        if (what == ROW_NUMBER) {
            book.number[i] = v;
        } else {
            book.money[i] = v;
        }
        return was;
    }

    public long check() {
        long first = NONE;
        for (int s = 0; s < STORES; s++) {
            long wrong = batteries[s].there ? book.firstWrong(s, batteries[s], worlds) : NONE;
            if (wrong != NONE && (first == NONE || wrong < first)) {
                first = wrong;
            }
        }
        return first;
    }

    public long shut() {
        int had = book.rows;
        book.rows = 0;
        return had;
    }

    public long warrant(int store, int v) {
        long refused = refusal(store, within(v, 0, MOST_WARRANTY));
        if (refused != FINE) {
            return refused;
        }
        int was = batteries[store].warranty;
        batteries[store].warranty = v;
        return was;
    }

    public long voided(int store) {
        long refused = refusal(store, true);
        if (refused != FINE) {
            return refused;
        }
        return book.firstBeyond(store, batteries[store].warranty);
    }

    public long count(int what) {
        if (!within(what, 0, LAST_COUNT)) {
            return BAD;
        }
        switch (what) {
            case 0: return storesThere();
            case 1: return line.steps;
            case 2: return bids.size;
            case 3: return book.rows;
            case 4: return worldsThere();
            case 5: return meters.readingsThere();
            case 6: return line.darkSteps();
            default: return book.allMoney();
        }
    }

    // ---- what the calls share

    /** Most calls ask in this order: the arguments (BAD), then whether the STORE is there (NO). */
    private long refusal(int store, boolean othersAreGood) {
        if (!isBattery(store) || !othersAreGood) {
            return BAD;
        }
        return batteries[store].there ? FINE : NO;
    }

    private boolean isStepNow(int step) {
        return within(step, 0, line.steps - 1);
    }

    private int storesThere() {
        int there = 0;
        for (int s = 0; s < STORES; s++) {
            there += batteries[s].there ? 1 : 0;
        }
        return there;
    }

    private int worldsThere() {
        int there = 0;
        for (int w = 0; w < WORLDS; w++) {
            there += worlds[w].there ? 1 : 0;
        }
        return there;
    }

    private static boolean within(int v, int least, int most) {
        return v >= least && v <= most;
    }

    private static boolean isAnyStep(int step) {
        return within(step, 0, MOST_STEPS - 1);
    }

    private static boolean isWorld(int world) {
        return within(world, 0, WORLDS - 1);
    }

    private static boolean areWorlds(int bits) {
        return within(bits, 1, ALL_WORLDS);
    }

    private static boolean hasWorld(int bits, int world) {
        return (bits >> world & 1) == 1;
    }

    private static boolean isBattery(int store) {
        return within(store, 0, STORES - 1);
    }

    private static boolean isKind(int kind) {
        return within(kind, STORE, DEEP);
    }

    private static boolean areRates(int ratesInOut) {
        return within(ratesInOut / RATES_BASE, 1, MOST_TOLD_RATE) && within(ratesInOut % RATES_BASE, 1, MOST_TOLD_RATE);
    }

    private static long oneIf(boolean yes) {
        return yes ? 1 : 0;
    }

    /** THE TIME: its STEPS, and what makes a PLAN not ALLOWED in them. */
    private static final class Line {
        int steps = FIRST_STEPS;
        final boolean[] dark = new boolean[MOST_STEPS];
        final int[] kept = new int[MOST_STEPS];

        int keptBack(int step) {
            return dark[step] ? 0 : kept[step];
        }

        int darkSteps() {
            int found = 0;
            for (int t = 0; t < steps; t++) {
                found += dark[t] ? 1 : 0;
            }
            return found;
        }

        boolean allowsMove(Battery battery, int t, int d) {
            return d == 0 || !dark[t] && battery.isInRates(d, keptBack(t));
        }

        long firstFault(Battery battery) {
            int after = battery.charge;
            for (int t = 0; t < steps; t++) {
                after += battery.plan[t];
                int fault = faultAt(battery, t, after);
                if (fault != 0) {
                    return 10 * t + fault;
                }
            }
            return NONE;
        }

        private int faultAt(Battery battery, int t, int after) {
            if (!allowsMove(battery, t, battery.plan[t])) {
                return dark[t] ? 1 : 2;
            }
            if (after < battery.lowest + keptBack(t)) {
                return 3;
            }
            if (after > battery.highest - keptBack(t)) {
                return 4;
            }
            return t == steps - 1 && after < battery.end ? 5 : 0;
        }
    }

    /** The prices of a WORLD. */
    private static final class Prices {
        boolean there;
        int width;
        int places;
        /** Room for the greatest number of places; only the first ones are there. */
        final int[] cells = new int[MOST_STEPS];

        void renew(int newWidth, int n) {
            there = true;
            width = newWidth;
            places = n;
            Arrays.fill(cells, 0);
        }

        boolean fits(int v) {
            return within(v, -PRICE_LIMITS[width], PRICE_LIMITS[width]);
        }

        /** Asked by a difference, since place + many can be too great for an int. */
        boolean hasRun(int place, int many) {
            return within(place, 0, places) && within(many, 0, places - place);
        }

        int priceOf(int step) {
            return there && within(step, 0, places - 1) ? cells[step] : 0;
        }
    }

    /** A STORE and its PLAN. */
    private static final class Battery {
        boolean there;
        int kind;
        int size;
        int charge;
        int lowest;
        int highest;
        int rateIn;
        int rateOut;
        int loss;
        int wear;
        int end;
        int warranty;
        final int[] plan = new int[MOST_STEPS];

        void renew(int newKind, int newSize) {
            there = true;
            kind = newKind;
            size = newSize;
            lowest = isA(DEEP) ? size / 10 : 0;
            highest = isA(OLD) ? size * 4 / 5 : size;
            charge = lowest;
            end = 0;
            warranty = MOST_WARRANTY;
            clearPlan();
        }

        void setRates(int in, int out) {
            int times = isA(QUICK) ? 2 : 1;
            rateIn = times * in;
            rateOut = times * out;
        }

        void setLosses(int newLoss, int newWear) {
            loss = isA(WARM) ? newLoss / 2 : newLoss;
            wear = newWear;
        }

        void clearPlan() {
            Arrays.fill(plan, 0);
        }

        boolean isA(int asked) {
            switch (asked) {
                case STORE: return true;
                case QUICK: return kind == QUICK || kind == WARM;
                case OLD: return kind == OLD || kind == DEEP;
                default: return kind == asked;
            }
        }

        int fact(int what) {
            switch (what) {
                case 0: return kind;
                case 1: return size;
                case 2: return charge;
                case 3: return rateIn;
                case 4: return rateOut;
                case 5: return loss;
                case 6: return wear;
                case 7: return lowest;
                case 8: return highest;
                case 9: return end;
                default: return warranty;
            }
        }

        boolean isInRates(int d, int kept) {
            return d <= rateIn - kept && d >= kept - rateOut;
        }

        int chargeBehind(int step) {
            int after = charge;
            for (int t = 0; t <= step && t < MOST_STEPS; t++) {
                after += plan[t];
            }
            return after;
        }

        /** Nothing is KEPT back here: bids are filled as far as the battery itself can. */
        int possible(int wish, int from) {
            int most = Math.min(rateIn, highest - from);
            int least = Math.max(-rateOut, lowest - from);
            return Math.max(least, Math.min(most, wish));
        }

        long moneyOf(int d, long price) {
            return moneyTogether(d, price, 1);
        }

        /** In so many WORLDS together: their prices can be summed first, the WEAR counts in each. */
        long moneyTogether(int d, long prices, int worldsMany) {
            if (d > 0) {
                return -prices * (d + (d * loss + 99) / 100);
            }
            return (prices - worldsMany * wear) * -d;
        }

        long planMoney(Prices prices, int steps) {
            long sum = 0;
            for (int t = 0; t < steps; t++) {
                sum += moneyOf(plan[t], prices.priceOf(t));
            }
            return sum;
        }
    }

    /** Finds VALUES from the last STEP backwards, and from them what is BEST. */
    private static final class Planner {
        /** The prices of all WORLDS that are asked for, together, by STEP. */
        final long[] priceSums = new long[MOST_STEPS];
        int worldsMany;
        /** VALUE by STEP and CHARGE; NONE where nothing is ALLOWED. */
        final long[] worth = new long[(MOST_STEPS + 1) * CHARGES];
        /** MONEY by number, for the STEP that is open; NONE for a number that is not ALLOWED. */
        final long[] gain = new long[2 * MOST_RATE + 1];
        final long[] ways = new long[CHARGES];
        final long[] nextWays = new long[CHARGES];
        int leastMove;
        int mostMove;
        int leastAfter;
        int mostAfter;

        /** Ahead of solve: for which WORLDS (bits) it looks. */
        void sumPrices(Prices[] worlds, int bits) {
            worldsMany = Integer.bitCount(bits);
            Arrays.fill(priceSums, 0L);
            for (int w = 0; w < worlds.length; w++) {
                for (int t = 0; t < MOST_STEPS && hasWorld(bits, w); t++) {
                    priceSums[t] += worlds[w].priceOf(t);
                }
            }
        }

        long worthOf(int t, int c) {
            return worth[t * CHARGES + c];
        }

        void solve(Line line, Battery battery, int from) {
            for (int c = 0; c < CHARGES; c++) {
                worth[line.steps * CHARGES + c] = c < battery.end ? NONE : 0;
            }
            for (int t = line.steps - 1; t >= from; t--) {
                openStep(line, battery, t);
                for (int c = 0; c <= battery.size; c++) {
                    worth[t * CHARGES + c] = greatest(t, c);
                }
            }
        }

        /** Only after solve from 0, and only if there is a PLAN that is ALLOWED. */
        void writeFirstBest(Line line, Battery battery) {
            int c = battery.charge;
            for (int t = 0; t < line.steps; t++) {
                openStep(line, battery, t);
                int d = leastBest(t, c);
                battery.plan[t] = d;
                c += d;
            }
        }

        /** Only after solve from 0, and only if there is a PLAN that is ALLOWED. */
        long waysOfBest(Line line, Battery battery) {
            Arrays.fill(ways, 0L);
            ways[battery.charge] = 1;
            for (int t = 0; t < line.steps; t++) {
                openStep(line, battery, t);
                Arrays.fill(nextWays, 0L);
                for (int c = 0; c <= battery.size; c++) {
                    spreadWays(t, c);
                }
                System.arraycopy(nextWays, 0, ways, 0, CHARGES);
            }
            long sum = 0;
            for (int c = 0; c < CHARGES; c++) {
                sum += ways[c];
            }
            return Math.min(MOST_MANY, sum);
        }

        private void openStep(Line line, Battery battery, int t) {
            int kept = line.keptBack(t);
            leastMove = line.dark[t] ? 0 : Math.min(0, kept - battery.rateOut);
            mostMove = line.dark[t] ? 0 : Math.max(0, battery.rateIn - kept);
            leastAfter = battery.lowest + kept;
            mostAfter = battery.highest - kept;
            for (int d = leastMove; d <= mostMove; d++) {
                // With much KEPT back, numbers between 0 and the rates are not ALLOWED.
                gain[d + MOST_RATE] = line.allowsMove(battery, t, d) ? battery.moneyTogether(d, priceSums[t], worldsMany) : NONE;
            }
        }

        private int firstMove(int c) {
            return Math.max(leastMove, leastAfter - c);
        }

        private int lastMove(int c) {
            return Math.min(mostMove, mostAfter - c);
        }

        private long worthThrough(int t, int c, int d) {
            long now = gain[d + MOST_RATE];
            long later = worth[(t + 1) * CHARGES + c + d];
            return now == NONE || later == NONE ? NONE : now + later;
        }

        private long greatest(int t, int c) {
            long found = NONE;
            int last = lastMove(c);
            for (int d = firstMove(c); d <= last; d++) {
                long through = worthThrough(t, c, d);
                // NONE is below every sum of MONEY.
                if (through > found) {
                    found = through;
                }
            }
            return found;
        }

        private int leastBest(int t, int c) {
            int last = lastMove(c);
            for (int d = firstMove(c); d <= last; d++) {
                if (worthThrough(t, c, d) == worthOf(t, c)) {
                    return d;
                }
            }
            return 0;
        }

        private void spreadWays(int t, int c) {
            if (ways[c] == 0) {
                return;
            }
            int last = lastMove(c);
            for (int d = firstMove(c); d <= last; d++) {
                if (worthThrough(t, c, d) == worthOf(t, c)) {
                    // Cut here too, so that no sum of ways can wrap around.
                    nextWays[c + d] = Math.min(MOST_MANY, nextWays[c + d] + ways[c]);
                }
            }
        }
    }

    /** The BIDS, in the order in which they came. */
    private static final class Bids {
        int size;
        final int[] first = new int[MOST_BIDS];
        final int[] last = new int[MOST_BIDS];
        final int[] amount = new int[MOST_BIDS];
        final int[] limit = new int[MOST_BIDS];

        int add(int newFirst, int newLast, int newAmount, int newLimit) {
            first[size] = newFirst;
            last[size] = newLast;
            amount[size] = newAmount;
            limit[size] = newLimit;
            size++;
            return size - 1;
        }

        boolean isTaken(int i, Prices prices) {
            int sum = 0;
            for (int t = first[i]; t <= last[i]; t++) {
                sum += prices.priceOf(t);
            }
            int due = limit[i] * (last[i] - first[i] + 1);
            return amount[i] < 0 ? sum >= due : sum <= due;
        }

        int sumWanted(Prices prices, int step) {
            int sum = 0;
            for (int i = 0; i < size; i++) {
                if (within(step, first[i], last[i]) && isTaken(i, prices)) {
                    sum += amount[i];
                }
            }
            return sum;
        }
    }

    /** The METERS' readings. */
    private static final class Meters {
        final int[] readings = new int[MOST_STEPS];

        Meters() {
            Arrays.fill(readings, NO_READING);
        }

        int readingsThere() {
            int there = 0;
            for (int t = 0; t < MOST_STEPS; t++) {
                there += readings[t] == NO_READING ? 0 : 1;
            }
            return there;
        }

        int counting(int step) {
            if (readings[step] != NO_READING) {
                return readings[step];
            }
            int a = nearestAhead(step);
            int b = nearestBehind(step);
            if (a != NO_READING && b != NO_READING) {
                return Math.floorDiv(a + b, 2);
            }
            if (a == NO_READING && b == NO_READING) {
                return 0;
            }
            return a == NO_READING ? b : a;
        }

        private int nearestAhead(int step) {
            for (int t = step - 1; t >= 0; t--) {
                if (readings[t] != NO_READING) {
                    return readings[t];
                }
            }
            return NO_READING;
        }

        private int nearestBehind(int step) {
            for (int t = step + 1; t < MOST_STEPS; t++) {
                if (readings[t] != NO_READING) {
                    return readings[t];
                }
            }
            return NO_READING;
        }
    }

    /** THE BOOK. */
    private static final class Book {
        int rows;
        final int[] store = new int[MOST_ROWS];
        final int[] world = new int[MOST_ROWS];
        final int[] step = new int[MOST_ROWS];
        final int[] number = new int[MOST_ROWS];
        final long[] money = new long[MOST_ROWS];

        void add(int newStore, int newWorld, int newStep, int newNumber, long newMoney) {
            store[rows] = newStore;
            world[rows] = newWorld;
            step[rows] = newStep;
            number[rows] = newNumber;
            money[rows] = newMoney;
            rows++;
        }

        long fact(int i, int what) {
            switch (what) {
                case 0: return store[i];
                case 1: return world[i];
                case 2: return step[i];
                case ROW_NUMBER: return number[i];
                default: return money[i];
            }
        }

        /** Goes backwards, as the CHARGE is known only behind the last row. */
        long firstWrong(int asked, Battery battery, Prices[] worlds) {
            long first = NONE;
            int ahead = battery.charge;
            for (int i = rows - 1; i >= 0; i--) {
                if (store[i] == asked) {
                    ahead -= number[i];
                    long due = battery.moneyOf(number[i], worlds[world[i]].priceOf(step[i]));
                    if (money[i] != due || !within(ahead, 0, battery.size)) {
                        first = i;
                    }
                }
            }
            return first;
        }

        long firstBeyond(int asked, int warranty) {
            int used = 0;
            for (int i = 0; i < rows; i++) {
                if (store[i] == asked) {
                    used += Math.abs(number[i]);
                    if (used > warranty) {
                        return i;
                    }
                }
            }
            return NONE;
        }

        long allMoney() {
            long sum = 0;
            for (int i = 0; i < rows; i++) {
                sum += money[i];
            }
            return sum;
        }
    }
}
