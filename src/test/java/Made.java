/** Objects in the states that tests begin with; each takes fewer than 110 of the 512 calls. */
enum Made {
    /** As it is made. */
    NEW,
    /** All WORLDS and STORES are there, T is 6, THE BOOK has 12 rows, every PLAN is ALLOWED, there are 5 BIDS. */
    OPEN,
    /** T is 4; STORE 1 and WORLD 2 are MISSING; WORLD 0 and 3 are shorts, WORLD 1 bytes; 8 rows, 2 BIDS. */
    HALF,
    /** 12 BIDS and 150 rows: neither takes one more. */
    FULL;

    static final int OPEN_STEPS = 6;
    static final int HALF_STEPS = 4;
    static final int FULL_STEPS = 5;

    HourStore make() {
        HourStore x = new HourStore();
        switch (this) {
            case OPEN: open(x); break;
            case HALF: half(x); break;
            case FULL: full(x); break;
            default: break;
        }
        return x;
    }

    private static void open(HourStore x) {
        x.time(OPEN_STEPS);
        Due.row(x, 0, 0, 5, -3, 100, -100, 9, 1);
        Due.row(x, 1, 1, 1000, -1000, 7, 0, 2);
        Due.row(x, 2, 2, -10000, 10000, 3);
        Due.row(x, 3, 1, 4, 4, 4, 4);
        x.store(0, 0, 20, Due.rates(5, 4), Due.lossWear(10, 2));
        x.store(1, 2, 11, Due.rates(2, 3), Due.lossWear(33, 1));
        x.store(2, 3, 21, Due.rates(6, 6), 0);
        x.store(3, 4, 30, Due.rates(1, 20), Due.lossWear(50, 100));
        for (int s = 0; s < 4; s++) {
            x.charge(s, 4 + s);
            x.end(s, s);
            x.warrant(s, 5 * s);
        }
        x.dark(2, 1);
        x.keep(2, 10);
        x.keep(4, 1);
        x.dark(35, 1);
        x.put(0, 0, 3);
        x.put(0, 1, -4);
        x.put(1, 3, 2);
        x.put(2, 5, -1);
        x.put(3, 3, -1);
        x.live(0, 0);
        x.live(3, 2);
        x.bid(0, 0, 20, 10000);
        x.bid(5, 5, -20, -10000);
        x.bid(0, 5, 1, 0);
        x.bid(1, 3, -2, 4);
        x.bid(2, 2, 3, -100);
        x.meter(0, -1000);
        x.meter(10, 1000);
        x.meter(35, 1);
    }

    private static void half(HourStore x) {
        x.time(HALF_STEPS);
        Due.row(x, 0, 1, 5, 6, 7);
        Due.row(x, 1, 0, 8, 9);
        Due.row(x, 3, 1, 10, 11, 12, 13);
        x.store(0, 4, 20, Due.rates(5, 4), Due.lossWear(10, 2));
        x.store(2, 0, 9, Due.rates(1, 1), 0);
        x.charge(0, 7);
        x.put(0, 0, 2);
        x.live(0, 0);
        x.put(2, 3, 1);
        x.live(2, 1);
        x.put(2, 0, 77);
        x.bid(0, 3, 1, 0);
        x.bid(1, 1, -2, 4);
        x.meter(3, 12);
        x.keep(1, 3);
        x.dark(1, 1);
    }

    private static void full(HourStore x) {
        x.time(30);
        Due.row(x, 0, 2, 3, 4, 5);
        x.store(0, 0, 20, Due.rates(5, 4), Due.lossWear(10, 2));
        x.put(0, 0, 3);
        x.put(0, 29, -2);
        for (int i = 0; i < 5; i++) {
            x.live(0, i % 4);
        }
        x.time(FULL_STEPS);
        x.put(0, 0, 1);
        x.put(0, 4, 2);
        for (int i = 0; i < 12; i++) {
            x.bid(i % 5, 4, i % 2 == 0 ? 1 + i : -1 - i, i - 5);
        }
        for (int t = 0; t < 36; t++) {
            x.meter(t, 7 * t - 100);
        }
    }
}
