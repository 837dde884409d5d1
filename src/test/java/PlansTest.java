/** Promises 15 to 23. */
public final class PlansTest {
    private static final Due due = new Due();

    public static void main(String[] args) {
        put();
        planned();
        behind();
        whyOfEachRule();
        whyOfKept();
        whyRefused();
        money();
        moneyOfWarm();
        worst();
        best();
        bestTakesTheLesser();
        bestInSeveralWorlds();
        bestOfNone();
        many();
        value();
        valueBeyondFloorAndTop();
        longestTimeGreatestRates();
        longestTimeOfAPlan();
        due.end();
    }

    private static HourStore four(int in, int out, int lossWear) {
        HourStore x = new HourStore();
        x.time(4);
        x.store(0, 0, 10, Due.rates(in, out), lossWear);
        return x;
    }

    private static void plan(HourStore x, int... numbers) {
        for (int t = 0; t < numbers.length; t++) {
            x.put(0, t, numbers[t]);
        }
    }

    private static void planIs(String what, HourStore x, int... numbers) {
        for (int t = 0; t < numbers.length; t++) {
            due.is(what + ", STEP " + t, x.planned(0, t), numbers[t]);
        }
    }

    private static void put() {
        HourStore x = four(3, 3, 0);
        due.is("15 put(0, 3, 100)", x.put(0, 3, 100), 0);
        due.is("15 put(0, 3, -100)", x.put(0, 3, -100), 100);
        due.is("15 d 101", x.put(0, 3, 101), Due.BAD);
        due.is("15 d -101", x.put(0, 3, -101), Due.BAD);
        due.is("15 INDEX ahead of d", x.put(0, 4, 101), Due.INDEX);
        due.is("15 STEP -1", x.put(0, -1, 0), Due.INDEX);
        due.is("15 MISSING", x.put(1, -1, 101), Due.NO);
        due.is("15 store 4", x.put(4, 0, 0), Due.BAD);
        due.is("15 store -1", x.put(-1, 0, 0), Due.BAD);
        due.is("15 refused", x.planned(0, 3), -100);
    }

    private static void planned() {
        HourStore x = four(3, 3, 0);
        x.store(2, 0, 10, Due.rates(1, 1), 0);
        x.put(0, 1, 5);
        due.is("16 planned(0, 1)", x.planned(0, 1), 5);
        due.is("16 another STEP", x.planned(0, 0), 0);
        due.is("16 another STORE", x.planned(2, 1), 0);
        due.is("16 STEP 4", x.planned(0, 4), Due.INDEX);
        due.is("16 STEP -1", x.planned(0, -1), Due.INDEX);
        due.is("16 MISSING", x.planned(1, 9), Due.NO);
        due.is("16 store 4", x.planned(4, 0), Due.BAD);
        due.is("16 store -1", x.planned(-1, 0), Due.BAD);
    }

    private static void behind() {
        HourStore x = four(3, 3, 0);
        x.charge(0, 6);
        plan(x, 1, -100, 7, 50);
        due.is("17 ahead of all", x.behind(0, -1), 6);
        due.is("17 behind 0", x.behind(0, 0), 7);
        due.is("17 behind 1, not ALLOWED", x.behind(0, 1), -93);
        due.is("17 behind 3", x.behind(0, 3), -36);
        due.is("17 STEP 4", x.behind(0, 4), Due.INDEX);
        due.is("17 STEP -2", x.behind(0, -2), Due.INDEX);
        due.is("17 STEP MIN", x.behind(0, Integer.MIN_VALUE), Due.INDEX);
        due.is("17 MISSING", x.behind(1, 9), Due.NO);
        due.is("17 store 4", x.behind(4, 0), Due.BAD);
        due.is("17 store -1", x.behind(-1, 0), Due.BAD);
    }

    private static void whyOfEachRule() {
        HourStore x = four(3, 2, 0);
        due.is("18 0 in all STEPS", x.why(0), Due.NONE);
        plan(x, 3, 3, 3, 1);
        due.is("18 up to THE TOP", x.why(0), Due.NONE);
        plan(x, 3, 3, 3, 2);
        due.is("18 above THE TOP", x.why(0), 34);
        plan(x, 0, 4, 0, 0);
        due.is("18 above the RATE in", x.why(0), 12);
        plan(x, 3, -3, 0, 0);
        due.is("18 below the RATE out", x.why(0), 12);
        plan(x, 3, -2, -2, 0);
        due.is("18 below THE FLOOR", x.why(0), 23);
        plan(x, 3, -2, -1, 0);
        due.is("18 down to THE FLOOR", x.why(0), Due.NONE);
        x.end(0, 1);
        due.is("18 below END", x.why(0), 35);
        plan(x, 3, -2, -1, 1);
        due.is("18 at END", x.why(0), Due.NONE);
        x.dark(3, 1);
        due.is("18 DARK", x.why(0), 31);
        plan(x, 3, -2, 0, 0);
        due.is("18 DARK with 0", x.why(0), Due.NONE);
        x.dark(3, 0);
        plan(x, 100, 100, -100, 1);
        due.is("18 the first STEP, of it the first rule", x.why(0), 2);
        x.dark(0, 1);
        due.is("18 DARK is asked first", x.why(0), 1);
    }

    private static void whyOfKept() {
        HourStore x = new HourStore();
        x.time(2);
        x.store(0, 4, 20, Due.rates(5, 4), 0);
        x.keep(0, 2);
        due.is("18 below THE FLOOR and R", x.why(0), 3);
        x.charge(0, 4);
        due.is("18 at THE FLOOR and R", x.why(0), Due.NONE);
        plan(x, 3, 0);
        due.is("18 the RATE in less R", x.why(0), Due.NONE);
        plan(x, 4, 0);
        due.is("18 above the RATE in less R", x.why(0), 2);
        x.charge(0, 14);
        plan(x, -2, 0);
        due.is("18 R less the RATE out", x.why(0), Due.NONE);
        plan(x, -3, 0);
        due.is("18 below R less the RATE out", x.why(0), 2);
        plan(x, 0, 2);
        due.is("18 at THE TOP less R", x.why(0), Due.NONE);
        plan(x, 1, 0);
        due.is("18 above THE TOP less R", x.why(0), 4);
        x.dark(0, 1);
        plan(x, 0, 2);
        x.keep(0, 10);
        due.is("18 nothing is KEPT of a DARK STEP", x.why(0), Due.NONE);
        x.dark(0, 0);
        due.is("18 0 goes with any R, the CHARGE does not", x.why(0), 4);
        x.store(0, 0, 60, Due.rates(5, 12), 0);
        x.charge(0, 30);
        due.is("18 0, R above the RATE in", x.why(0), Due.NONE);
        plan(x, -1, 0);
        due.is("18 -1 is above the RATE in less R", x.why(0), 2);
        x.store(0, 0, 60, Due.rates(9, 12), 0);
        x.charge(0, 30);
        plan(x, -1, 0);
        due.is("18 -1 is between both", x.why(0), Due.NONE);
        x.store(0, 0, 60, Due.rates(20, 5), 0);
        x.charge(0, 30);
        plan(x, 4, 0);
        due.is("18 4 is below R less the RATE out", x.why(0), 2);
        plan(x, 5, 0);
        due.is("18 5 is between both", x.why(0), Due.NONE);
    }

    private static void whyRefused() {
        HourStore x = four(1, 1, 0);
        due.is("18 MISSING", x.why(1), Due.NO);
        due.is("18 store 4", x.why(4), Due.BAD);
        due.is("18 store -1", x.why(-1), Due.BAD);
    }

    private static void money() {
        HourStore x = four(3, 3, Due.lossWear(10, 4));
        Due.prices(x, 0, 5, 7, -3, -2);
        plan(x, 3, -2, 1, -1);
        // -5 * (3 + 1) + (7 - 4) * 2 + 3 * (1 + 1) + (-2 - 4) * 1
        due.is("19 money(0, 0)", x.money(0, 0), -14);
        due.is("19 prices that are MISSING", x.money(0, 1), -12);
        plan(x, 10, 0, 0, 0);
        due.is("19 a loss of just 1", x.money(0, 0), -55);
        plan(x, 11, 0, 0, 0);
        due.is("19 a loss that is cut upwards", x.money(0, 0), -65);
        x.store(0, 0, 10, Due.rates(3, 3), 0);
        plan(x, 100, 0, 0, 0);
        due.is("19 no LOSS", x.money(0, 0), -500);
        due.is("19 world 4", x.money(0, 4), Due.BAD);
        due.is("19 world -1", x.money(0, -1), Due.BAD);
        due.is("19 MISSING, world 4", x.money(1, 4), Due.BAD);
        due.is("19 MISSING", x.money(1, 0), Due.NO);
        due.is("19 store 4", x.money(4, 0), Due.BAD);
        due.is("19 store -1", x.money(-1, 0), Due.BAD);
    }

    private static void moneyOfWarm() {
        HourStore x = new HourStore();
        x.time(1);
        Due.prices(x, 2, 10);
        x.store(0, 2, 60, Due.rates(20, 20), Due.lossWear(51 - 2, 0));
        x.put(0, 0, 50);
        // half of 49 is 24: 50 + 12
        due.is("19 the LOSS as it counts", x.money(0, 2), -620);
    }

    private static void worst() {
        HourStore x = four(3, 3, 0);
        Due.prices(x, 0, 5, 9);
        Due.prices(x, 1, 5, 4);
        Due.prices(x, 3, 0, 6);
        plan(x, 1, -1, 0, 0);
        long[] each = {4, -1, 0, 6};
        for (int bits = 1; bits < 16; bits++) {
            long least = Long.MAX_VALUE;
            for (int w = 0; w < 4; w++) {
                least = (bits >> w & 1) == 1 ? Math.min(least, each[w]) : least;
            }
            due.is("20 worst(0, " + bits + ")", x.worst(0, bits), least);
        }
        due.is("20 worlds 0", x.worst(0, 0), Due.BAD);
        due.is("20 worlds 16", x.worst(0, 16), Due.BAD);
        due.is("20 worlds -1", x.worst(0, -1), Due.BAD);
        due.is("20 MISSING, worlds 0", x.worst(1, 0), Due.BAD);
        due.is("20 MISSING", x.worst(1, 1), Due.NO);
        due.is("20 store 4", x.worst(4, 1), Due.BAD);
        due.is("20 store -1", x.worst(-1, 1), Due.BAD);
    }

    private static void best() {
        HourStore x = four(4, 4, Due.lossWear(0, 1));
        Due.prices(x, 0, 2, 1, 9, 9);
        plan(x, 9, 9, 9, 9);
        // 8 bought at 2 and 1, sold at 9 less 1
        due.is("21 best(0, 1)", x.best(0, 1), 8 * 8 - 4 * 2 - 4);
        planIs("21", x, 4, 4, -4, -4);
        due.is("21 worlds 0", x.best(0, 0), Due.BAD);
        due.is("21 worlds 16", x.best(0, 16), Due.BAD);
        due.is("21 MISSING, worlds 0", x.best(1, 0), Due.BAD);
        due.is("21 MISSING", x.best(1, 1), Due.NO);
        due.is("21 store 4", x.best(4, 1), Due.BAD);
        due.is("21 store -1", x.best(-1, 1), Due.BAD);
        planIs("21 refused", x, 4, 4, -4, -4);
        x.charge(0, 10);
        // 4 sold at 2 less 1, 2 of them bought again at 1, 8 sold at 9 less 1
        due.is("21 from a CHARGE", x.best(0, 1), 4 - 2 + 8 * 8);
        planIs("21 from a CHARGE", x, -4, 2, -4, -4);
    }

    private static void bestTakesTheLesser() {
        HourStore x = four(2, 2, 0);
        Due.prices(x, 0, 5, 5, 5, 5);
        x.charge(0, 2);
        due.is("21 all the same", x.best(0, 1), 10);
        planIs("21 the lesser first", x, -2, 0, 0, 0);
        x.end(0, 2);
        due.is("21 back to END", x.best(0, 1), 0);
        planIs("21 the lesser at each STEP", x, -2, 0, 0, 2);
    }

    private static void bestInSeveralWorlds() {
        HourStore x = four(1, 1, Due.lossWear(0, 3));
        Due.prices(x, 0, 1, 12);
        Due.prices(x, 1, 1, 0);
        due.is("21 WORLD 0", x.best(0, 1), 8);
        // 12 + 0 - 2 * 3 - 2
        due.is("21 WORLDS 0, 1: WEAR in each", x.best(0, 3), 4);
        due.is("21 WORLDS 0, 1, 2", x.best(0, 7), 1);
        due.is("21 all WORLDS", x.best(0, 15), 0);
        planIs("21 all WORLDS", x, 0, 0, 0, 0);
    }

    private static void bestOfNone() {
        HourStore x = four(1, 1, 0);
        plan(x, 1, -1, 1, -1);
        x.end(0, 5);
        due.is("21 END is too far", x.best(0, 1), Due.NONE);
        planIs("21 the PLAN stays", x, 1, -1, 1, -1);
        due.is("22 END is too far", x.many(0, 1), 0);
        x.end(0, 4);
        due.is("21 END is just there", x.best(0, 1), 0);
        planIs("21 up to END", x, 1, 1, 1, 1);
        due.is("22 one alone", x.many(0, 1), 1);
    }

    private static void many() {
        HourStore x = new HourStore();
        x.time(1);
        x.store(0, 0, 10, Due.rates(3, 2), 0);
        x.charge(0, 5);
        due.is("22 -2 .. 3", x.many(0, 1), 6);
        x.keep(0, 1);
        due.is("22 -1 .. 2", x.many(0, 1), 4);
        x.dark(0, 1);
        due.is("22 DARK", x.many(0, 1), 1);
        due.is("22 worlds 0", x.many(0, 0), Due.BAD);
        due.is("22 worlds 16", x.many(0, 16), Due.BAD);
        due.is("22 MISSING, worlds 0", x.many(1, 0), Due.BAD);
        due.is("22 MISSING", x.many(1, 1), Due.NO);
        due.is("22 store 4", x.many(4, 1), Due.BAD);
        due.is("22 store -1", x.many(-1, 1), Due.BAD);
        manyJustBelowAndAbove();
    }

    /** Of n STEPS with -1, 0, 1 from a CHARGE in the middle that no PLAN can leave: 3 to the n. */
    private static void manyJustBelowAndAbove() {
        HourStore x = new HourStore();
        x.store(0, 0, 60, Due.rates(1, 1), 0);
        x.charge(0, 30);
        long ways = 1;
        for (int n = 1; n <= 30; n++) {
            x.time(n);
            ways *= 3;
            due.is("22 3 to the " + n, x.many(0, 2), Math.min(ways, 1000000000L));
        }
        due.is("22 the PLAN stays", x.planned(0, 0), 0);
    }

    private static void value() {
        HourStore x = four(2, 2, 0);
        Due.prices(x, 0, 1, 2, 3, 4);
        x.put(0, 0, 1);
        due.is("23 t 3, c 5", x.value(0, 1, 3, 5), 8);
        due.is("23 t 2, c 5", x.value(0, 1, 2, 5), 14);
        due.is("23 t 0, c 0", x.value(0, 1, 0, 0), 8);
        due.is("23 t 4, c 0", x.value(0, 1, 4, 0), 0);
        due.is("23 t 5", x.value(0, 1, 5, 0), Due.BAD);
        due.is("23 t -1", x.value(0, 1, -1, 0), Due.BAD);
        due.is("23 c 11", x.value(0, 1, 0, 11), Due.BAD);
        due.is("23 c -1", x.value(0, 1, 0, -1), Due.BAD);
        due.is("23 worlds 0", x.value(0, 0, 0, 0), Due.BAD);
        due.is("23 worlds 16", x.value(0, 16, 0, 0), Due.BAD);
        due.is("23 MISSING, worlds 0", x.value(1, 0, 0, 0), Due.BAD);
        due.is("23 MISSING, t wrong", x.value(1, 1, -1, 0), Due.NO);
        due.is("23 store 4", x.value(4, 1, 0, 0), Due.BAD);
        due.is("23 store -1", x.value(-1, 1, 0, 0), Due.BAD);
        x.end(0, 3);
        due.is("23 t 4, c 3", x.value(0, 1, 4, 3), 0);
        due.is("23 t 4, c 2", x.value(0, 1, 4, 2), Due.NONE);
        due.is("23 t 3, c 1", x.value(0, 1, 3, 1), -8);
        due.is("23 t 3, c 0", x.value(0, 1, 3, 0), Due.NONE);
        due.is("23 the PLAN stays", x.planned(0, 0), 1);
    }

    private static void valueBeyondFloorAndTop() {
        HourStore x = new HourStore();
        x.time(1);
        x.store(0, 4, 20, Due.rates(3, 3), 0);
        Due.prices(x, 0, 10);
        due.is("23 from 0 up to THE FLOOR", x.value(0, 1, 0, 0), -20);
        due.is("23 from 1", x.value(0, 1, 0, 1), -10);
        due.is("23 from 19 down to THE TOP", x.value(0, 1, 0, 19), 30);
        due.is("23 from 20: too far", x.value(0, 1, 0, 20), Due.NONE);
        due.is("23 t 1, c 20", x.value(0, 1, 1, 20), 0);
        due.is("23 t 1, c 0", x.value(0, 1, 1, 0), 0);
        due.is("23 c 21", x.value(0, 1, 1, 21), Due.BAD);
    }

    private static void longestTimeGreatestRates() {
        HourStore x = new HourStore();
        x.time(36);
        x.store(0, 1, 60, Due.rates(20, 20), 0);
        x.world(0, 2, 36);
        for (int t = 0; t < 36; t++) {
            x.price(0, t, t % 2 == 0 ? -10000 : 10000);
        }
        due.is("21 40 in and out, 18 times", x.best(0, 1), 18 * 40 * 20000);
        planIs("21 40 in and out", x, 40, -40, 40, -40);
        due.is("21 the last STEP", x.planned(0, 35), -40);
        due.is("22 one alone", x.many(0, 1), 1);
        due.is("23 t 35, c 60", x.value(0, 1, 35, 60), 400000);
        due.is("23 t 36, c 60", x.value(0, 1, 36, 60), 0);
        x.end(0, 60);
        due.is("23 t 36, c 59", x.value(0, 1, 36, 59), Due.NONE);
        due.is("22 more than can be told, at one CHARGE", x.many(0, 2), 1000000000);
    }

    private static void longestTimeOfAPlan() {
        HourStore x = new HourStore();
        x.time(36);
        x.store(0, 0, 60, Due.rates(2, 1), Due.lossWear(0, 1));
        x.world(0, 0, 36);
        for (int t = 0; t < 36; t++) {
            x.put(0, t, 1);
            x.price(0, t, 1);
        }
        due.is("17 behind the last one", x.behind(0, 35), 36);
        due.is("17 STEP 36", x.behind(0, 36), Due.INDEX);
        due.is("18 ALLOWED", x.why(0), Due.NONE);
        due.is("19 all STEPS", x.money(0, 0), -36);
        due.is("20 all STEPS", x.worst(0, 15), -36);
        x.put(0, 35, 3);
        due.is("18 the last STEP", x.why(0), 352);
    }
}
