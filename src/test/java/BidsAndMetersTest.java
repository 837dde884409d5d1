/** Promises 24 to 30. */
public final class BidsAndMetersTest {
    private static final Due due = new Due();

    public static void main(String[] args) {
        bid();
        bidFull();
        unbid();
        taken();
        wanted();
        fill();
        fillRefused();
        fillOfTheLongestTime();
        meter();
        counts();
        countsAtTheEnds();
        due.end();
    }

    private static void bid() {
        HourStore x = new HourStore();
        x.time(5);
        int[][] wrong = {{-1, 0, 1, 0}, {0, 5, 1, 0}, {5, 5, 1, 0}, {3, 2, 1, 0}, {0, 0, 0, 0}, {0, 0, 21, 0}, {0, 0, -21, 0},
            {0, 0, 1, 10001}, {0, 0, 1, -10001}, {Integer.MIN_VALUE, 0, 1, 0}, {0, Integer.MAX_VALUE, 1, 0}};
        for (int[] w : wrong) {
            due.is("24 bid(" + w[0] + ", " + w[1] + ", " + w[2] + ", " + w[3] + ")", x.bid(w[0], w[1], w[2], w[3]), Due.BAD);
        }
        due.is("24 refused", x.count(2), 0);
        due.is("24 all STEPS, the greatest", x.bid(0, 4, 20, 10000), 0);
        due.is("24 one STEP, the least", x.bid(4, 4, -20, -10000), 1);
    }

    private static void bidFull() {
        HourStore x = new HourStore();
        for (int i = 0; i < 12; i++) {
            due.is("24 number " + i, x.bid(0, 23, 1, 0), i);
        }
        due.is("24 one too many", x.bid(0, 23, 1, 0), Due.FULL);
        due.is("24 wrong, and one too many", x.bid(0, 24, 1, 0), Due.BAD);
        due.is("24 refused", x.count(2), 12);
        x.unbid();
        due.is("24 again", x.bid(0, 23, 2, 0), 11);
        due.is("24 all of them count", x.wanted(0, 0), 13);
    }

    private static void unbid() {
        HourStore x = new HourStore();
        due.is("25 none", x.unbid(), Due.NO);
        x.bid(0, 0, 3, 0);
        x.bid(0, 0, 4, 0);
        due.is("25 one is left", x.unbid(), 1);
        due.is("25 it was the last", x.wanted(0, 0), 3);
        due.is("25 it is no more", x.taken(1, 0), Due.BAD);
        due.is("25 none is left", x.unbid(), 0);
        due.is("25 none", x.unbid(), Due.NO);
        due.is("25 BIDS", x.count(2), 0);
    }

    private static void taken() {
        HourStore x = new HourStore();
        Due.prices(x, 0, 4, 6, -1);
        x.bid(0, 1, 2, 5);
        x.bid(0, 1, 2, 4);
        x.bid(0, 1, -2, 5);
        x.bid(0, 1, -2, 6);
        x.bid(0, 2, 1, 3);
        x.bid(0, 2, -1, 3);
        x.bid(1, 3, -1, -1);
        long[] answers = {1, 0, 1, 0, 1, 1, 1};
        for (int i = 0; i < answers.length; i++) {
            due.is("26 taken(" + i + ", 0)", x.taken(i, 0), answers[i]);
        }
        // all prices are 0 in a WORLD that is MISSING
        long[] missing = {1, 1, 0, 0, 1, 0, 1};
        for (int i = 0; i < missing.length; i++) {
            due.is("26 taken(" + i + ", 3)", x.taken(i, 3), missing[i]);
        }
        due.is("26 bid 7", x.taken(7, 0), Due.BAD);
        due.is("26 bid -1", x.taken(-1, 0), Due.BAD);
        due.is("26 world 4", x.taken(0, 4), Due.BAD);
        due.is("26 world -1", x.taken(0, -1), Due.BAD);
        x.bid(0, 0, -1, 5);
        due.is("26 sells, below", x.taken(7, 0), 0);
        x.price(0, 0, 5);
        due.is("26 by the prices as they are now", x.taken(7, 0), 1);
    }

    private static void wanted() {
        HourStore x = new HourStore();
        x.time(4);
        Due.prices(x, 0, 1, 1, 1, 1);
        x.bid(1, 2, 5, 1);
        x.bid(2, 3, -7, 1);
        x.bid(0, 3, 9, 0);
        long[] sums = {0, 5, -2, -7};
        for (int t = 0; t < 4; t++) {
            due.is("27 wanted(0, " + t + ")", x.wanted(0, t), sums[t]);
        }
        due.is("27 another WORLD", x.wanted(1, 2), 14);
        due.is("27 STEP 4", x.wanted(0, 4), Due.INDEX);
        due.is("27 STEP -1", x.wanted(0, -1), Due.INDEX);
        due.is("27 world 4", x.wanted(4, 4), Due.BAD);
        due.is("27 world -1", x.wanted(-1, 0), Due.BAD);
    }

    private static void fill() {
        HourStore x = new HourStore();
        x.time(6);
        x.store(0, 4, 20, Due.rates(5, 4), 0);
        x.charge(0, 4);
        x.keep(0, 10);
        x.end(0, 60);
        x.bid(0, 0, 3, 0);
        x.bid(1, 1, 9, 0);
        x.bid(2, 2, 9, 0);
        x.bid(3, 3, -9, 0);
        x.bid(4, 5, -6, 0);
        x.dark(4, 1);
        x.put(0, 4, 77);
        // by THE FLOOR 2, THE TOP 16: 4, 7, 12, 16, 12, 12, 8
        due.is("28 SHORT", x.fill(0, 0), 0 + 4 + 5 + 5 + 6 + 2);
        int[] done = {3, 5, 4, -4, 0, -4};
        for (int t = 0; t < 6; t++) {
            due.is("28 DONE " + t, x.planned(0, t), done[t]);
        }
        due.is("28 the CHARGE stays", x.about(0, 2), 4);
        x.charge(0, 3);
        x.time(1);
        x.bid(0, 0, -4, 0);
        due.is("28 down to THE FLOOR", x.fill(0, 0), 3);
        due.is("28 down to THE FLOOR", x.planned(0, 0), -1);
        x.unbid();
        due.is("28 nothing is WANTED", x.fill(0, 0), 0);
        due.is("28 nothing is DONE", x.planned(0, 0), 0);
    }

    private static void fillRefused() {
        HourStore x = new HourStore();
        x.store(0, 0, 10, Due.rates(1, 1), 0);
        x.put(0, 0, 7);
        due.is("28 world 4", x.fill(0, 4), Due.BAD);
        due.is("28 world -1", x.fill(0, -1), Due.BAD);
        due.is("28 MISSING, world 4", x.fill(1, 4), Due.BAD);
        due.is("28 MISSING", x.fill(1, 0), Due.NO);
        due.is("28 store 4", x.fill(4, 0), Due.BAD);
        due.is("28 store -1", x.fill(-1, 0), Due.BAD);
        due.is("28 refused", x.planned(0, 0), 7);
    }

    private static void meter() {
        HourStore x = new HourStore();
        due.is("29 the greatest", x.meter(35, 1000), -1001);
        due.is("29 the least", x.meter(35, -1000), 1000);
        due.is("29 1001", x.meter(35, 1001), Due.BAD);
        due.is("29 -1002", x.meter(35, -1002), Due.BAD);
        due.is("29 STEP 36", x.meter(36, 0), Due.BAD);
        due.is("29 STEP -1", x.meter(-1, 0), Due.BAD);
        due.is("29 readings", x.count(5), 1);
        due.is("29 none", x.meter(35, -1001), -1000);
        due.is("29 none again", x.meter(35, -1001), -1001);
        due.is("29 no readings", x.count(5), 0);
    }

    private static void counts() {
        HourStore x = new HourStore();
        due.is("30 no reading", x.counts(10), 0);
        x.meter(10, -7);
        due.is("30 itself", x.counts(10), -7);
        due.is("30 behind it", x.counts(0), -7);
        due.is("30 ahead of it", x.counts(35), -7);
        x.meter(20, 4);
        due.is("30 between, cut towards below", x.counts(11), -2);
        due.is("30 between", x.counts(19), -2);
        due.is("30 ahead of both", x.counts(9), -7);
        due.is("30 behind both", x.counts(21), 4);
        x.meter(15, 0);
        due.is("30 a reading of 0", x.counts(15), 0);
        due.is("30 the nearest ones", x.counts(14), -4);
        due.is("30 the nearest ones", x.counts(16), 2);
        x.meter(30, 10);
        due.is("30 behind T", x.counts(25), 7);
        x.time(5);
        due.is("30 T does not matter", x.counts(25), 7);
        due.is("30 STEP 36", x.counts(36), Due.BAD);
        due.is("30 STEP -1", x.counts(-1), Due.BAD);
    }

    private static void fillOfTheLongestTime() {
        HourStore x = new HourStore();
        x.time(36);
        x.store(0, 0, 60, Due.rates(1, 1), 0);
        x.bid(0, 35, 2, 0);
        due.is("28 SHORT by 1 each", x.fill(0, 0), 36);
        due.is("28 the last STEP", x.planned(0, 35), 1);
    }

    private static void countsAtTheEnds() {
        HourStore x = new HourStore();
        x.meter(0, 8);
        due.is("38 a reading of STEP 0", x.count(5), 1);
        due.is("30 ahead of it STEP 0 alone", x.counts(1), 8);
        due.is("30 ahead of it STEP 0 alone", x.counts(35), 8);
        x.meter(35, 3);
        due.is("30 between STEP 0 and STEP 35", x.counts(1), 5);
        due.is("30 between STEP 0 and STEP 35", x.counts(34), 5);
        x.meter(0, -1001);
        due.is("30 behind it STEP 35 alone", x.counts(0), 3);
        due.is("30 behind it STEP 35 alone", x.counts(34), 3);
        due.is("38 a reading of STEP 35", x.count(5), 1);
    }
}
