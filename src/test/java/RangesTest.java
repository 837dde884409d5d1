/**
 * Each argument of each call: the least and the greatest number that is taken, the next one below and above,
 * and the farthest ones. A call that is refused changes nothing.
 */
public final class RangesTest {
    private static final Due due = new Due();

    private interface With {
        long of(HourStore x, int v);
    }

    public static void main(String[] args) {
        timeAndSteps();
        worlds();
        prices();
        pricesByWidth();
        copies();
        newStores();
        rates();
        charges();
        stores();
        plans();
        someWorlds();
        values();
        bids();
        amounts();
        meters();
        rows();
        forged();
        warrantiesAndCounts();
        due.end();
    }

    private static void range(String what, int least, int most, long refusal, With call) {
        range(what, least, most, refusal, refusal, call);
    }

    /** All other arguments are good ones, and nothing else is in the way. */
    private static void range(String what, int least, int most, long below, long above, With call) {
        for (int v : new int[] {least, most}) {
            due.takes(what + " " + v, Made.OPEN, x -> call.of(x, v));
        }
        for (int v : new int[] {least - 1, Integer.MIN_VALUE}) {
            due.refuses(what + " " + v, Made.OPEN, x -> call.of(x, v), below);
        }
        for (int v : new int[] {most + 1, Integer.MAX_VALUE}) {
            due.refuses(what + " " + v, Made.OPEN, x -> call.of(x, v), above);
        }
    }

    private static void timeAndSteps() {
        range("2 time: n", 1, 36, Due.BAD, (x, v) -> x.time(v));
        range("3 dark: STEP", 0, 35, Due.BAD, (x, v) -> x.dark(v, 1));
        range("3 dark: on", 0, 1, Due.BAD, (x, v) -> x.dark(2, v));
        range("4 keep: STEP", 0, 35, Due.BAD, (x, v) -> x.keep(v, 1));
        range("4 keep: v", 0, 10, Due.BAD, (x, v) -> x.keep(4, v));
    }

    private static void worlds() {
        range("5 world: world", 0, 3, Due.BAD, (x, v) -> x.world(v, 0, 1));
        range("5 world: width", 0, 2, Due.BAD, (x, v) -> x.world(0, v, 1));
        for (int width = 0; width < 3; width++) {
            int w = width;
            range("5 world: n of WIDTH " + w, 0, 36, Due.SIZE, Due.BAD, (x, v) -> x.world(0, w, v));
        }
        range("6 lose: world", 0, 3, Due.BAD, (x, v) -> x.lose(v));
        range("9 told: world", 0, 3, Due.BAD, (x, v) -> x.told(v, 0));
        range("9 told: STEP", 0, 35, Due.BAD, (x, v) -> x.told(0, v));
    }

    private static void prices() {
        range("7 price: world", 0, 3, Due.BAD, (x, v) -> x.price(v, 0, 1));
        int[] places = {6, 5, 3, 4};
        for (int world = 0; world < 4; world++) {
            int w = world;
            range("7 price: place of WORLD " + w, 0, places[w] - 1, Due.INDEX, (x, v) -> x.price(w, v, 1));
        }
    }

    private static void pricesByWidth() {
        range("7 price: bytes", -100, 100, Due.BAD, (x, v) -> x.price(0, 5, v));
        range("7 price: shorts", -1000, 1000, Due.BAD, (x, v) -> x.price(1, 4, v));
        range("7 price: ints", -10000, 10000, Due.BAD, (x, v) -> x.price(2, 2, v));
        // These would be the price 5 again if they were cut to 8 or 16 bits.
        due.refuses("7 price: 261", Made.OPEN, x -> x.price(0, 0, 261), Due.BAD);
        due.refuses("7 price: 65541", Made.OPEN, x -> x.price(1, 0, 65541), Due.BAD);
    }

    private static void copies() {
        range("8 copy: many to the end of the source", 0, 3, Due.INDEX, (x, v) -> x.copy(3, 1, 1, 0, v));
        range("8 copy: many to the end of the target", 0, 2, Due.INDEX, (x, v) -> x.copy(1, 0, 3, 2, v));
        range("8 copy: place", 0, 2, Due.INDEX, (x, v) -> x.copy(3, v, 1, 0, 2));
        range("8 copy: place of none", 0, 4, Due.INDEX, (x, v) -> x.copy(3, v, 1, 0, 0));
        range("8 copy: at", 0, 2, Due.INDEX, (x, v) -> x.copy(1, 0, 3, v, 2));
        range("8 copy: at, none", 0, 4, Due.INDEX, (x, v) -> x.copy(1, 0, 3, v, 0));
        for (int bad : new int[] {-1, 4, Integer.MIN_VALUE, Integer.MAX_VALUE}) {
            due.refuses("8 copy: from " + bad, Made.OPEN, x -> x.copy(bad, 0, 0, 0, 1), Due.BAD);
            due.refuses("8 copy: to " + bad, Made.OPEN, x -> x.copy(0, 0, bad, 0, 1), Due.BAD);
        }
        for (int world = 0; world < 4; world++) {
            int w = world;
            due.takes("8 copy: onto itself " + w, Made.OPEN, x -> x.copy(w, 0, w, 0, 3));
        }
        due.refuses("8 copy: place and many that wrap around", Made.OPEN, x -> x.copy(3, Integer.MAX_VALUE, 1, 0, 1), Due.INDEX);
        due.refuses("8 copy: at and many that wrap around", Made.OPEN, x -> x.copy(3, 0, 1, 1, Integer.MAX_VALUE), Due.INDEX);
    }

    private static void newStores() {
        int rates = Due.rates(1, 1);
        range("10 store: store", 0, 3, Due.BAD, (x, v) -> x.store(v, 0, 1, rates, 0));
        range("10 store: kind", 0, 4, Due.BAD, (x, v) -> x.store(0, v, 1, rates, 0));
        for (int kind = 0; kind < 5; kind++) {
            int k = kind;
            range("10 store: SIZE of KIND " + k, 1, 60, Due.BAD, (x, v) -> x.store(0, k, v, rates, 0));
        }
        range("10 store: lossWear", 0, 101 * 50 + 100, Due.BAD, (x, v) -> x.store(0, 0, 1, rates, v));
        // A WEAR of 101 is the next LOSS, with a WEAR of 0.
        HourStore x = new HourStore();
        x.store(0, 0, 1, rates, 101 * 49 + 101);
        due.is("10 LOSS 50", x.about(0, 5), 50);
        due.is("10 WEAR 0", x.about(0, 6), 0);
    }

    /** Each of the 20 times 20 RATES is taken, and no other number is. */
    private static void rates() {
        range("10 store: ratesInOut", 22, 440, Due.BAD, (x, v) -> x.store(0, 0, 1, v, 0));
        HourStore x = new HourStore();
        for (int v = 0; v < 480; v++) {
            boolean good = v >= 21 && v <= 440 && v % 21 != 0;
            due.is("10 ratesInOut " + v, x.store(0, 0, 1, v, 0), good ? 0 : Due.BAD);
        }
        for (int in = 0; in <= 21; in++) {
            for (int out : new int[] {1, 20}) {
                HourStore y = new HourStore();
                boolean good = in >= 1 && in <= 20;
                due.is("10 in " + in + ", out " + out, y.store(0, 0, 1, 21 * in + out, 0), good ? 0 : Due.BAD);
                due.is("10 RATE in " + in, y.about(0, 3), good ? in : Due.NO);
                due.is("10 RATE out " + out, y.about(0, 4), good ? out : Due.NO);
            }
        }
    }

    private static void charges() {
        range("11 charge: store", 0, 3, Due.BAD, (x, v) -> x.charge(v, 5));
        range("11 charge: a STORE", 0, 20, Due.BAD, (x, v) -> x.charge(0, v));
        range("11 charge: WARM", 0, 11, Due.BAD, (x, v) -> x.charge(1, v));
        range("11 charge: OLD", 0, 16, Due.BAD, (x, v) -> x.charge(2, v));
        range("11 charge: DEEP", 3, 24, Due.BAD, (x, v) -> x.charge(3, v));
    }

    private static void stores() {
        range("12 end: store", 0, 3, Due.BAD, (x, v) -> x.end(v, 5));
        range("12 end: v", 0, 60, Due.BAD, (x, v) -> x.end(0, v));
        range("13 about: store", 0, 3, Due.BAD, (x, v) -> x.about(v, 0));
        range("13 about: what", 0, 10, Due.BAD, (x, v) -> x.about(0, v));
        range("14 isOf: store", 0, 3, Due.BAD, (x, v) -> x.isOf(v, 0));
        range("14 isOf: kind", 0, 4, Due.BAD, (x, v) -> x.isOf(0, v));
    }

    private static void plans() {
        int last = Made.OPEN_STEPS - 1;
        range("15 put: store", 0, 3, Due.BAD, (x, v) -> x.put(v, 0, 1));
        range("15 put: STEP", 0, last, Due.INDEX, (x, v) -> x.put(0, v, 1));
        range("15 put: d", -100, 100, Due.BAD, (x, v) -> x.put(0, 0, v));
        range("16 planned: store", 0, 3, Due.BAD, (x, v) -> x.planned(v, 0));
        range("16 planned: STEP", 0, last, Due.INDEX, (x, v) -> x.planned(0, v));
        range("17 behind: store", 0, 3, Due.BAD, (x, v) -> x.behind(v, 0));
        range("17 behind: STEP", -1, last, Due.INDEX, (x, v) -> x.behind(0, v));
        range("18 why: store", 0, 3, Due.BAD, (x, v) -> x.why(v));
        range("19 money: store", 0, 3, Due.BAD, (x, v) -> x.money(v, 0));
        range("19 money: world", 0, 3, Due.BAD, (x, v) -> x.money(0, v));
    }

    private static void someWorlds() {
        range("20 worst: store", 0, 3, Due.BAD, (x, v) -> x.worst(v, 1));
        range("20 worst: worlds", 1, 15, Due.BAD, (x, v) -> x.worst(0, v));
        range("21 best: store", 0, 3, Due.BAD, (x, v) -> x.best(v, 1));
        range("21 best: worlds", 1, 15, Due.BAD, (x, v) -> x.best(0, v));
        range("22 many: store", 0, 3, Due.BAD, (x, v) -> x.many(v, 1));
        range("22 many: worlds", 1, 15, Due.BAD, (x, v) -> x.many(0, v));
        // The lowest four bits alone would be good WORLDS.
        for (int bits : new int[] {17, 31, -15, 0x40000001}) {
            due.refuses("20 worst: worlds " + bits, Made.OPEN, x -> x.worst(0, bits), Due.BAD);
            due.refuses("21 best: worlds " + bits, Made.OPEN, x -> x.best(0, bits), Due.BAD);
            due.refuses("22 many: worlds " + bits, Made.OPEN, x -> x.many(0, bits), Due.BAD);
            due.refuses("23 value: worlds " + bits, Made.OPEN, x -> x.value(0, bits, 0, 0), Due.BAD);
        }
    }

    private static void values() {
        range("23 value: store", 0, 3, Due.BAD, (x, v) -> x.value(v, 1, 0, 5));
        range("23 value: worlds", 1, 15, Due.BAD, (x, v) -> x.value(0, v, 0, 5));
        range("23 value: t", 0, Made.OPEN_STEPS, Due.BAD, (x, v) -> x.value(0, 1, v, 5));
        range("23 value: c", 0, 20, Due.BAD, (x, v) -> x.value(0, 1, 0, v));
        // THE TOP of this one is 16, THE FLOOR of the other one 3.
        range("23 value: c of OLD", 0, 21, Due.BAD, (x, v) -> x.value(2, 1, 3, v));
        range("23 value: c of DEEP", 0, 30, Due.BAD, (x, v) -> x.value(3, 1, 0, v));
    }

    private static void bids() {
        int last = Made.OPEN_STEPS - 1;
        range("24 bid: first", 0, 3, Due.BAD, (x, v) -> x.bid(v, 3, 1, 0));
        range("24 bid: last", 2, last, Due.BAD, (x, v) -> x.bid(2, v, 1, 0));
        range("24 bid: both", 0, last, Due.BAD, (x, v) -> x.bid(v, v, 1, 0));
        range("24 bid: limit", -10000, 10000, Due.BAD, (x, v) -> x.bid(0, last, 1, v));
        range("26 taken: bid", 0, 4, Due.BAD, (x, v) -> x.taken(v, 0));
        range("26 taken: world", 0, 3, Due.BAD, (x, v) -> x.taken(0, v));
        range("27 wanted: world", 0, 3, Due.BAD, (x, v) -> x.wanted(v, 0));
        range("27 wanted: STEP", 0, last, Due.INDEX, (x, v) -> x.wanted(0, v));
        range("28 fill: store", 0, 3, Due.BAD, (x, v) -> x.fill(v, 0));
        range("28 fill: world", 0, 3, Due.BAD, (x, v) -> x.fill(0, v));
    }

    private static void amounts() {
        range("24 bid: amount", -20, 20, Due.BAD, (x, v) -> x.bid(0, 0, v, 0));
        due.takes("24 bid: amount -1", Made.OPEN, x -> x.bid(0, 0, -1, 0));
        due.takes("24 bid: amount 1", Made.OPEN, x -> x.bid(0, 0, 1, 0));
        due.refuses("24 bid: amount 0", Made.OPEN, x -> x.bid(0, 0, 0, 0), Due.BAD);
    }

    private static void meters() {
        range("29 meter: STEP", 0, 35, Due.BAD, (x, v) -> x.meter(v, 1));
        range("29 meter: v, -1001 is none", -1001, 1000, Due.BAD, (x, v) -> x.meter(10, v));
        range("30 counts: STEP", 0, 35, Due.BAD, (x, v) -> x.counts(v));
        HourStore x = new HourStore();
        x.meter(7, -1000);
        due.is("29 -1000 is a reading", x.count(5), 1);
        x.meter(7, -1001);
        due.is("29 -1001 is none", x.count(5), 0);
    }

    private static void rows() {
        range("31 live: store", 0, 3, Due.BAD, (x, v) -> x.live(v, 0));
        range("31 live: world", 0, 3, Due.BAD, (x, v) -> x.live(0, v));
        range("32 row: i", 0, 11, Due.BAD, (x, v) -> x.row(v, 0));
        range("32 row: what", 0, 4, Due.BAD, (x, v) -> x.row(0, v));
        due.refuses("32 row 0 of an empty BOOK", Made.NEW, x -> x.row(0, 0), Due.BAD);
        due.takes("32 the last row of a full BOOK", Made.FULL, x -> x.row(149, 4));
        due.refuses("32 behind the last row of a full BOOK", Made.FULL, x -> x.row(150, 4), Due.BAD);
    }

    private static void forged() {
        range("33 forge: i, number", 0, 11, Due.BAD, (x, v) -> x.forge(v, 3, 1));
        range("33 forge: i, MONEY", 0, 11, Due.BAD, (x, v) -> x.forge(v, 4, 1));
        range("33 forge: what", 3, 4, Due.BAD, (x, v) -> x.forge(0, v, 1));
        range("33 forge: number", -100, 100, Due.BAD, (x, v) -> x.forge(0, 3, v));
        for (int v : new int[] {Integer.MIN_VALUE, -101, 101, Integer.MAX_VALUE}) {
            due.takes("33 forge: MONEY " + v, Made.OPEN, x -> x.forge(0, 4, v));
        }
        due.refuses("33 row 0 of an empty BOOK", Made.NEW, x -> x.forge(0, 4, 0), Due.BAD);
        due.takes("33 the last row of a full BOOK", Made.FULL, x -> x.forge(149, 3, 0));
        due.refuses("33 behind the last row of a full BOOK", Made.FULL, x -> x.forge(150, 3, 0), Due.BAD);
    }

    private static void warrantiesAndCounts() {
        range("36 warrant: store", 0, 3, Due.BAD, (x, v) -> x.warrant(v, 1));
        range("36 warrant: v", 0, 100000, Due.BAD, (x, v) -> x.warrant(0, v));
        range("37 voided: store", 0, 3, Due.BAD, (x, v) -> x.voided(v));
        range("38 count: what", 0, 7, Due.BAD, (x, v) -> x.count(v));
    }
}
