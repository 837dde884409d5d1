/** Promises 10 to 14. */
public final class StoresTest {
    private static final Due due = new Due();

    public static void main(String[] args) {
        storeFacts();
        storeEdges();
        storeRefused();
        storeIsNewAgain();
        charge();
        end();
        about();
        isOf();
        due.end();
    }

    private static void facts(HourStore x, int store, long... facts) {
        for (int what = 0; what < facts.length; what++) {
            due.is("13 about(" + store + ", " + what + ")", x.about(store, what), facts[what]);
        }
    }

    private static void storeFacts() {
        HourStore x = new HourStore();
        due.is("10 STORE", x.store(0, 0, 29, Due.rates(7, 3), Due.lossWear(15, 42)), 0);
        facts(x, 0, 0, 29, 0, 7, 3, 15, 42, 0, 29, 0, 100000);
        due.is("10 QUICK", x.store(1, 1, 29, Due.rates(7, 3), Due.lossWear(15, 42)), 0);
        facts(x, 1, 1, 29, 0, 14, 6, 15, 42, 0, 29, 0, 100000);
        due.is("10 WARM", x.store(2, 2, 29, Due.rates(7, 3), Due.lossWear(15, 42)), 0);
        facts(x, 2, 2, 29, 0, 14, 6, 7, 42, 0, 29, 0, 100000);
        due.is("10 OLD", x.store(3, 3, 29, Due.rates(7, 3), Due.lossWear(15, 42)), 0);
        facts(x, 3, 3, 29, 0, 7, 3, 15, 42, 0, 23, 0, 100000);
        due.is("10 DEEP", x.store(3, 4, 29, Due.rates(7, 3), Due.lossWear(15, 42)), 0);
        facts(x, 3, 4, 29, 2, 7, 3, 15, 42, 2, 23, 0, 100000);
    }

    private static void storeEdges() {
        HourStore x = new HourStore();
        due.is("10 the least", x.store(0, 0, 1, Due.rates(1, 1), 0), 0);
        facts(x, 0, 0, 1, 0, 1, 1, 0, 0, 0, 1);
        due.is("10 the greatest", x.store(1, 2, 60, Due.rates(20, 20), Due.lossWear(50, 100)), 0);
        facts(x, 1, 2, 60, 0, 40, 40, 25, 100, 0, 60);
        due.is("10 OLD, the least", x.store(2, 3, 1, Due.rates(1, 20), 0), 0);
        facts(x, 2, 3, 1, 0, 1, 20, 0, 0, 0, 0);
        due.is("10 DEEP, the greatest", x.store(3, 4, 60, Due.rates(20, 1), 100), 0);
        facts(x, 3, 4, 60, 6, 20, 1, 0, 100, 6, 48);
        due.is("10 STORES", x.count(0), 4);
    }

    private static void storeRefused() {
        HourStore x = new HourStore();
        int fine = Due.rates(2, 2);
        for (int bad : new int[] {-1, 4, Integer.MIN_VALUE, Integer.MAX_VALUE}) {
            due.is("10 store " + bad, x.store(bad, 0, 10, fine, 0), Due.BAD);
        }
        for (int bad : new int[] {-1, 5, Integer.MIN_VALUE, Integer.MAX_VALUE}) {
            due.is("10 kind " + bad, x.store(0, bad, 10, fine, 0), Due.BAD);
        }
        for (int bad : new int[] {-1, 0, 61, Integer.MIN_VALUE, Integer.MAX_VALUE}) {
            due.is("10 size " + bad, x.store(0, 0, bad, fine, 0), Due.BAD);
        }
        int[] badRates = {-22, -1, 0, 1, 20, 21, 42, 420, 441, 442, 462, Integer.MIN_VALUE, Integer.MAX_VALUE};
        for (int bad : badRates) {
            due.is("10 ratesInOut " + bad, x.store(0, 0, 10, bad, 0), Due.BAD);
        }
        for (int bad : new int[] {-1, -102, 5151, Integer.MIN_VALUE, Integer.MAX_VALUE}) {
            due.is("10 lossWear " + bad, x.store(0, 0, 10, fine, bad), Due.BAD);
        }
        due.is("10 refused", x.count(0), 0);
        due.is("10 22 and 5150", x.store(0, 0, 10, 22, 5150), 0);
        due.is("10 440", x.store(0, 0, 10, 440, 0), 0);
    }

    private static void storeIsNewAgain() {
        HourStore x = new HourStore();
        x.store(0, 0, 20, Due.rates(5, 5), 0);
        x.charge(0, 9);
        x.end(0, 7);
        x.warrant(0, 3);
        x.put(0, 4, 2);
        due.is("10 refused", x.store(0, 0, 20, 0, 0), Due.BAD);
        facts(x, 0, 0, 20, 9, 5, 5, 0, 0, 0, 20, 7, 3);
        due.is("10 refused, PLAN", x.planned(0, 4), 2);
        due.is("10 new again", x.store(0, 4, 30, Due.rates(4, 6), Due.lossWear(3, 1)), 0);
        facts(x, 0, 4, 30, 3, 4, 6, 3, 1, 3, 24, 0, 100000);
        due.is("10 its PLAN", x.planned(0, 4), 0);
        due.is("10 still one", x.count(0), 1);
    }

    private static void charge() {
        HourStore x = new HourStore();
        x.store(0, 4, 50, Due.rates(1, 1), 0);
        due.is("11 to THE TOP", x.charge(0, 40), 5);
        due.is("11 above", x.charge(0, 41), Due.BAD);
        due.is("11 below", x.charge(0, 4), Due.BAD);
        due.is("11 to THE FLOOR", x.charge(0, 5), 40);
        due.is("11 refused", x.about(0, 2), 5);
        due.is("11 MISSING, v wrong", x.charge(1, 99), Due.NO);
        due.is("11 store 4", x.charge(4, 1), Due.BAD);
        due.is("11 store -1", x.charge(-1, 1), Due.BAD);
    }

    private static void end() {
        HourStore x = new HourStore();
        x.store(0, 3, 5, Due.rates(1, 1), 0);
        due.is("12 above THE TOP", x.end(0, 60), 0);
        due.is("12 61", x.end(0, 61), Due.BAD);
        due.is("12 -1", x.end(0, -1), Due.BAD);
        due.is("12 0", x.end(0, 0), 60);
        due.is("12 MISSING", x.end(1, 0), Due.NO);
        due.is("12 MISSING, v wrong", x.end(1, 61), Due.BAD);
        due.is("12 store 4", x.end(4, 0), Due.BAD);
        due.is("12 store -1", x.end(-1, 0), Due.BAD);
        x.end(0, 2);
        due.is("13 END", x.about(0, 9), 2);
    }

    private static void about() {
        HourStore x = new HourStore();
        x.store(0, 0, 5, Due.rates(1, 1), 0);
        due.is("13 what 11", x.about(0, 11), Due.BAD);
        due.is("13 what -1", x.about(0, -1), Due.BAD);
        due.is("13 MISSING, what 11", x.about(1, 11), Due.BAD);
        due.is("13 MISSING", x.about(1, 10), Due.NO);
        due.is("13 store 4", x.about(4, 0), Due.BAD);
        due.is("13 store -1", x.about(-1, 0), Due.BAD);
        x.warrant(0, 77);
        due.is("13 WARRANTY", x.about(0, 10), 77);
    }

    private static void isOf() {
        int[][] table = {{1, 0, 0, 0, 0}, {1, 1, 0, 0, 0}, {1, 1, 1, 0, 0}, {1, 0, 0, 1, 0}, {1, 0, 0, 1, 1}};
        HourStore x = new HourStore();
        for (int kind = 0; kind < 5; kind++) {
            x.store(0, kind, 10, Due.rates(1, 1), 0);
            for (int asked = 0; asked < 5; asked++) {
                due.is("14 KIND " + kind + " of " + asked, x.isOf(0, asked), table[kind][asked]);
            }
        }
        due.is("14 kind 5", x.isOf(0, 5), Due.BAD);
        due.is("14 kind -1", x.isOf(0, -1), Due.BAD);
        due.is("14 MISSING, kind 5", x.isOf(1, 5), Due.BAD);
        due.is("14 MISSING", x.isOf(1, 0), Due.NO);
        due.is("14 store 4", x.isOf(4, 0), Due.BAD);
        due.is("14 store -1", x.isOf(-1, 0), Due.BAD);
    }
}
