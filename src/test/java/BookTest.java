/** Promises 31 to 38. */
public final class BookTest {
    private static final Due due = new Due();

    public static void main(String[] args) {
        live();
        liveRefused();
        liveFull();
        liveOfTheLongestTime();
        row();
        forge();
        checkMoney();
        checkCharge();
        checkFirstRow();
        checkOfSeveralStores();
        shut();
        warrant();
        voided();
        count();
        due.end();
    }

    /** Two STEPS, a STORE 0 of SIZE 10 and prices 5, 8 in WORLD 2. */
    private static HourStore two() {
        HourStore x = new HourStore();
        x.time(2);
        Due.prices(x, 2, 5, 8);
        x.store(0, 0, 10, Due.rates(4, 4), Due.lossWear(0, 1));
        return x;
    }

    private static void plan(HourStore x, int store, int first, int second) {
        x.put(store, 0, first);
        x.put(store, 1, second);
    }

    private static void live() {
        HourStore x = two();
        plan(x, 0, 4, -3);
        due.is("31 live(0, 2)", x.live(0, 2), 2);
        due.is("31 the CHARGE", x.about(0, 2), 1);
        due.is("31 the PLAN stays", x.planned(0, 0), 4);
        due.is("31 once more", x.live(0, 2), 4);
        due.is("31 the CHARGE", x.about(0, 2), 2);
        due.is("31 in a WORLD that is MISSING", x.live(0, 3), 6);
        due.is("31 its MONEY", x.row(5, 4), -3);
    }

    private static void liveRefused() {
        HourStore x = two();
        plan(x, 0, 4, -3);
        due.is("31 world 4", x.live(0, 4), Due.BAD);
        due.is("31 world -1", x.live(0, -1), Due.BAD);
        due.is("31 MISSING, world 4", x.live(1, 4), Due.BAD);
        due.is("31 MISSING", x.live(1, 2), Due.NO);
        due.is("31 store 4", x.live(4, 2), Due.BAD);
        due.is("31 store -1", x.live(-1, 2), Due.BAD);
        x.end(0, 2);
        due.is("31 not ALLOWED", x.live(0, 2), Due.NO);
        due.is("31 refused: rows", x.count(3), 0);
        due.is("31 refused: CHARGE", x.about(0, 2), 0);
        x.end(0, 1);
        due.is("31 ALLOWED", x.live(0, 2), 2);
    }

    private static void liveFull() {
        HourStore x = new HourStore();
        x.store(1, 0, 10, Due.rates(4, 4), 0);
        x.time(30);
        for (int i = 1; i <= 5; i++) {
            due.is("31 live " + i, x.live(1, 0), 30 * i);
        }
        x.time(1);
        x.put(1, 0, 1);
        due.is("31 FULL", x.live(1, 0), Due.FULL);
        due.is("31 refused: rows", x.count(3), 150);
        due.is("31 refused: CHARGE", x.about(1, 2), 0);
        x.put(1, 0, -1);
        due.is("31 not ALLOWED is asked ahead of FULL", x.live(1, 0), Due.NO);
        due.is("31 shut()", x.shut(), 150);
        x.put(1, 0, 1);
        due.is("31 room again", x.live(1, 0), 1);
    }

    private static void liveOfTheLongestTime() {
        HourStore x = new HourStore();
        x.time(36);
        x.store(0, 0, 60, Due.rates(1, 1), 0);
        for (int t = 0; t < 36; t++) {
            x.put(0, t, 1);
        }
        due.is("31 36 rows", x.live(0, 0), 36);
        due.is("31 the CHARGE behind all", x.about(0, 2), 36);
        due.is("32 the last STEP", x.row(35, 2), 35);
        due.is("34 RIGHT", x.check(), Due.NONE);
    }

    private static void row() {
        HourStore x = two();
        plan(x, 0, 4, -3);
        x.live(0, 2);
        x.store(3, 0, 10, Due.rates(1, 1), 0);
        plan(x, 3, 1, 0);
        x.live(3, 1);
        long[][] rows = {{0, 2, 0, 4, -20}, {0, 2, 1, -3, 21}, {3, 1, 0, 1, 0}, {3, 1, 1, 0, 0}};
        for (int i = 0; i < rows.length; i++) {
            for (int what = 0; what < 5; what++) {
                due.is("32 row(" + i + ", " + what + ")", x.row(i, what), rows[i][what]);
            }
        }
        due.is("32 row 4", x.row(4, 0), Due.BAD);
        due.is("32 row -1", x.row(-1, 0), Due.BAD);
        due.is("32 what 5", x.row(0, 5), Due.BAD);
        due.is("32 what -1", x.row(0, -1), Due.BAD);
    }

    private static void forge() {
        HourStore x = two();
        plan(x, 0, 4, -3);
        x.live(0, 2);
        due.is("33 a number", x.forge(0, 3, 100), 4);
        due.is("33 a number", x.forge(0, 3, -100), 100);
        due.is("33 101", x.forge(0, 3, 101), Due.BAD);
        due.is("33 -101", x.forge(0, 3, -101), Due.BAD);
        due.is("33 refused", x.row(0, 3), -100);
        due.is("33 MONEY", x.forge(1, 4, Integer.MAX_VALUE), 21);
        due.is("33 MONEY", x.forge(1, 4, Integer.MIN_VALUE), Integer.MAX_VALUE);
        due.is("33 MONEY", x.row(1, 4), Integer.MIN_VALUE);
        due.is("33 the other row", x.row(0, 4), -20);
        due.is("33 what 2", x.forge(0, 2, 0), Due.BAD);
        due.is("33 what 5", x.forge(0, 5, 0), Due.BAD);
        due.is("33 row 2", x.forge(2, 3, 0), Due.BAD);
        due.is("33 row -1", x.forge(-1, 3, 0), Due.BAD);
        due.is("33 refused", x.row(0, 2), 0);
        due.is("33 the CHARGE stays", x.about(0, 2), 1);
    }

    private static void checkMoney() {
        HourStore x = two();
        plan(x, 0, 4, -3);
        x.live(0, 2);
        due.is("34 RIGHT", x.check(), Due.NONE);
        x.forge(1, 4, 22);
        due.is("34 wrong MONEY", x.check(), 1);
        x.forge(1, 4, 21);
        x.price(2, 0, 6);
        due.is("34 prices as they are now", x.check(), 0);
        x.price(2, 0, 5);
        x.lose(2);
        due.is("34 prices that are MISSING", x.check(), 0);
        Due.prices(x, 2, 5, 8);
        due.is("34 RIGHT again", x.check(), Due.NONE);
        x.time(1);
        due.is("34 T does not matter", x.check(), Due.NONE);
        x.store(0, 0, 10, Due.rates(1, 1), Due.lossWear(0, 2));
        x.charge(0, 1);
        due.is("34 the WEAR as it is now", x.check(), 1);
    }

    private static void checkCharge() {
        HourStore x = two();
        plan(x, 0, 4, -3);
        x.live(0, 2);
        x.charge(0, 7);
        due.is("34 up to SIZE", x.check(), Due.NONE);
        x.charge(0, 8);
        due.is("34 beyond SIZE ahead of row 1", x.check(), 1);
        x.charge(0, 0);
        due.is("34 below 0 ahead of row 0", x.check(), 0);
        x.charge(0, 1);
        due.is("34 RIGHT", x.check(), Due.NONE);
        x.store(0, 3, 5, Due.rates(1, 1), Due.lossWear(0, 1));
        x.charge(0, 2);
        due.is("34 SIZE, not THE TOP", x.check(), Due.NONE);
        x.charge(0, 3);
        due.is("34 beyond the SIZE as it is now", x.check(), 1);
        x.store(0, 4, 30, Due.rates(1, 1), Due.lossWear(0, 1));
        x.forge(0, 3, 6);
        x.forge(0, 4, -30);
        due.is("34 0, not THE FLOOR", x.check(), Due.NONE);
        x.forge(0, 3, 7);
        x.forge(0, 4, -35);
        due.is("34 below 0", x.check(), 0);
    }

    private static void checkFirstRow() {
        HourStore x = two();
        plan(x, 0, 2, 1);
        x.live(0, 2);
        x.charge(0, 1);
        due.is("34 the CHARGE of row 0", x.check(), 0);
        x.forge(1, 4, 99);
        due.is("34 row 0 ahead of the MONEY of row 1", x.check(), 0);
        x.charge(0, 3);
        due.is("34 the MONEY of row 1", x.check(), 1);
        x.forge(0, 4, 99);
        due.is("34 the MONEY of row 0", x.check(), 0);
    }

    private static void checkOfSeveralStores() {
        HourStore x = two();
        x.store(1, 0, 5, Due.rates(4, 4), 0);
        plan(x, 0, 4, 0);
        plan(x, 1, 1, 1);
        x.live(0, 2);
        x.live(1, 2);
        plan(x, 0, 4, 0);
        x.live(0, 2);
        due.is("34 each STORE by itself", x.check(), Due.NONE);
        x.charge(1, 0);
        due.is("34 STORE 1", x.check(), 2);
        x.charge(1, 1);
        due.is("34 STORE 1", x.check(), 2);
        x.charge(0, 7);
        due.is("34 STORE 0 comes first", x.check(), 0);
        x.charge(1, 2);
        x.charge(0, 8);
        x.forge(4, 4, 1);
        due.is("34 the last STORE 0 row", x.check(), 4);
        x.forge(3, 4, 1);
        due.is("34 a row of STORE 1 is ahead of it", x.check(), 3);
    }

    private static void shut() {
        HourStore x = two();
        plan(x, 0, 4, -3);
        x.live(0, 2);
        x.forge(0, 4, 1);
        x.warrant(0, 0);
        due.is("35 shut()", x.shut(), 2);
        due.is("35 rows", x.count(3), 0);
        due.is("35 row(0, 0)", x.row(0, 0), Due.BAD);
        due.is("35 forge(0, 3, 0)", x.forge(0, 3, 0), Due.BAD);
        due.is("35 check()", x.check(), Due.NONE);
        due.is("35 voided(0)", x.voided(0), Due.NONE);
        due.is("35 MONEY", x.count(7), 0);
        due.is("35 the CHARGE stays", x.about(0, 2), 1);
        due.is("35 shut() again", x.shut(), 0);
    }

    private static void warrant() {
        HourStore x = two();
        due.is("36 0", x.warrant(0, 0), 100000);
        due.is("36 100000", x.warrant(0, 100000), 0);
        due.is("36 100001", x.warrant(0, 100001), Due.BAD);
        due.is("36 -1", x.warrant(0, -1), Due.BAD);
        due.is("36 refused", x.warrant(0, 5), 100000);
        due.is("36 MISSING, v wrong", x.warrant(1, -1), Due.BAD);
        due.is("36 MISSING", x.warrant(1, 1), Due.NO);
        due.is("36 store 4", x.warrant(4, 1), Due.BAD);
        due.is("36 store -1", x.warrant(-1, 1), Due.BAD);
    }

    private static void voided() {
        HourStore x = two();
        x.store(1, 0, 10, Due.rates(4, 4), 0);
        plan(x, 1, 4, 4);
        x.live(1, 2);
        plan(x, 0, 4, -3);
        x.live(0, 2);
        x.live(0, 2);
        due.is("37 not VOID", x.voided(0), Due.NONE);
        x.warrant(0, 14);
        due.is("37 14 is not above 14", x.voided(0), Due.NONE);
        x.warrant(0, 13);
        due.is("37 14 is above 13", x.voided(0), 5);
        x.warrant(0, 7);
        due.is("37 11 is above 7", x.voided(0), 4);
        x.warrant(0, 6);
        due.is("37 7 is above 6", x.voided(0), 3);
        x.warrant(0, 3);
        due.is("37 4 is above 3", x.voided(0), 2);
        x.forge(2, 3, 0);
        due.is("37 by the numbers as they stand", x.voided(0), 4);
        x.warrant(1, 7);
        due.is("37 STORE 1", x.voided(1), 1);
        due.is("37 MISSING", x.voided(2), Due.NO);
        due.is("37 store 4", x.voided(4), Due.BAD);
        due.is("37 store -1", x.voided(-1), Due.BAD);
    }

    private static void count() {
        HourStore x = two();
        x.store(3, 1, 10, Due.rates(1, 1), 0);
        x.world(0, 0, 0);
        x.bid(0, 1, 1, 1);
        x.dark(1, 1);
        x.dark(2, 1);
        x.meter(35, 0);
        x.meter(2, 9);
        x.meter(3, 9);
        plan(x, 0, 4, 0);
        x.live(0, 2);
        x.forge(1, 4, Integer.MAX_VALUE);
        long[] counts = {2, 2, 1, 2, 2, 3, 1, Integer.MAX_VALUE - 20L};
        for (int what = 0; what < counts.length; what++) {
            due.is("38 count(" + what + ")", x.count(what), counts[what]);
        }
        x.forge(0, 4, Integer.MAX_VALUE);
        due.is("38 MONEY beyond an int", x.count(7), 2L * Integer.MAX_VALUE);
        x.time(3);
        due.is("38 DARK up to T", x.count(6), 2);
        x.dark(0, 1);
        x.dark(35, 1);
        due.is("38 DARK from 0 on", x.count(6), 3);
        x.time(36);
        due.is("38 DARK up to the last", x.count(6), 4);
        due.is("38 what 8", x.count(8), Due.BAD);
        due.is("38 what -1", x.count(-1), Due.BAD);
    }
}
