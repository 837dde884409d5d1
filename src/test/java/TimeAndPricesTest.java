/** Promises 1 to 9. */
public final class TimeAndPricesTest {
    private static final Due due = new Due();

    public static void main(String[] args) {
        newObject();
        time();
        dark();
        keep();
        world();
        lose();
        price();
        copyAnswers();
        copyMoves();
        copyRefused();
        told();
        due.end();
    }

    private static void newObject() {
        HourStore x = new HourStore();
        long[] counts = {0, 24, 0, 0, 0, 0, 0, 0};
        for (int what = 0; what < counts.length; what++) {
            due.is("1 count(" + what + ")", x.count(what), counts[what]);
        }
        for (int i = 0; i < 4; i++) {
            due.is("1 about(" + i + ", 0)", x.about(i, 0), Due.NO);
            due.is("1 lose(" + i + ")", x.lose(i), Due.NOTHING);
        }
        for (int t = 0; t < 36; t++) {
            due.is("1 counts(" + t + ")", x.counts(t), 0);
            due.is("1 dark(" + t + ", 0)", x.dark(t, 0), 0);
            due.is("1 keep(" + t + ", 0)", x.keep(t, 0), 0);
            due.is("1 meter(" + t + ", -1001)", x.meter(t, -1001), -1001);
            due.is("1 told(3, " + t + ")", x.told(3, t), 0);
        }
        due.is("1 taken(0, 0)", x.taken(0, 0), Due.BAD);
        due.is("1 unbid()", x.unbid(), Due.NO);
        due.is("1 row(0, 0)", x.row(0, 0), Due.BAD);
        due.is("1 check()", x.check(), Due.NONE);
        due.is("1 shut()", x.shut(), 0);
    }

    private static void time() {
        HourStore x = new HourStore();
        x.store(0, 0, 10, Due.rates(5, 5), 0);
        x.store(3, 0, 10, Due.rates(5, 5), 0);
        x.put(0, 3, 1);
        x.put(3, 23, 2);
        x.dark(5, 1);
        x.keep(6, 7);
        x.bid(0, 23, 1, 0);
        x.bid(0, 0, 1, 0);
        for (int bad : new int[] {0, -1, 37, Integer.MIN_VALUE, Integer.MAX_VALUE}) {
            due.is("2 time(" + bad + ")", x.time(bad), Due.BAD);
        }
        due.is("2 refused: T", x.count(1), 24);
        due.is("2 refused: BIDS", x.count(2), 2);
        due.is("2 refused: PLAN", x.planned(0, 3), 1);
        due.is("2 time(36)", x.time(36), 2);
        due.is("2 T", x.count(1), 36);
        due.is("2 BIDS", x.count(2), 0);
        due.is("2 PLAN 0", x.planned(0, 3), 0);
        due.is("2 PLAN 3", x.planned(3, 23), 0);
        due.is("2 PLAN, last", x.planned(3, 35), 0);
        x.put(0, 35, 4);
        x.bid(1, 2, 1, 0);
        due.is("2 time, the same T", x.time(36), 1);
        due.is("2 PLAN behind the same T", x.planned(0, 35), 0);
        x.put(0, 35, 4);
        due.is("2 time(1)", x.time(1), 0);
        due.is("2 planned(0, 1)", x.planned(0, 1), Due.INDEX);
        x.time(36);
        due.is("2 a PLAN's far end is 0 again", x.planned(0, 35), 0);
        due.is("2 DARK stays", x.dark(5, 1), 1);
        due.is("2 KEPT stays", x.keep(6, 7), 7);
    }

    private static void dark() {
        HourStore x = new HourStore();
        due.is("3 dark(0, 1)", x.dark(0, 1), 0);
        due.is("3 dark(0, 1)", x.dark(0, 1), 1);
        due.is("3 dark(35, 1), behind T", x.dark(35, 1), 0);
        for (int bad : new int[] {-1, 2, Integer.MIN_VALUE, Integer.MAX_VALUE}) {
            due.is("3 dark(0, " + bad + ")", x.dark(0, bad), Due.BAD);
        }
        due.is("3 dark(-1, 0)", x.dark(-1, 0), Due.BAD);
        due.is("3 dark(36, 0)", x.dark(36, 0), Due.BAD);
        due.is("3 refused", x.dark(0, 0), 1);
        due.is("3 not DARK again", x.dark(0, 0), 0);
        due.is("3 35", x.dark(35, 0), 1);
    }

    private static void keep() {
        HourStore x = new HourStore();
        due.is("4 keep(0, 10)", x.keep(0, 10), 0);
        due.is("4 keep(35, 1)", x.keep(35, 1), 0);
        due.is("4 keep(0, 11)", x.keep(0, 11), Due.BAD);
        due.is("4 keep(0, -1)", x.keep(0, -1), Due.BAD);
        due.is("4 keep(-1, 0)", x.keep(-1, 0), Due.BAD);
        due.is("4 keep(36, 0)", x.keep(36, 0), Due.BAD);
        due.is("4 refused", x.keep(0, 3), 10);
        x.dark(0, 1);
        due.is("4 the number stays while the STEP is DARK", x.keep(0, 4), 3);
        x.dark(0, 0);
        due.is("4 the number set while DARK", x.keep(0, 0), 4);
        due.is("4 keep(35, 0)", x.keep(35, 0), 1);
    }

    private static void world() {
        HourStore x = new HourStore();
        due.is("5 world(0, 0, 36)", x.world(0, 0, 36), 36);
        due.is("5 world(3, 2, 0)", x.world(3, 2, 0), 0);
        due.is("5 an empty row is there", x.count(4), 2);
        x.price(0, 35, 9);
        due.is("5 world(0, 0, 37)", x.world(0, 0, 37), Due.BAD);
        due.is("5 world(0, 0, MAX)", x.world(0, 0, Integer.MAX_VALUE), Due.BAD);
        due.is("5 world(0, 0, -1)", x.world(0, 0, -1), Due.SIZE);
        due.is("5 world(0, 0, MIN)", x.world(0, 0, Integer.MIN_VALUE), Due.SIZE);
        due.is("5 world(4, 0, -1)", x.world(4, 0, -1), Due.BAD);
        due.is("5 world(-1, 0, 1)", x.world(-1, 0, 1), Due.BAD);
        due.is("5 world(0, 3, -1)", x.world(0, 3, -1), Due.BAD);
        due.is("5 world(0, -1, 1)", x.world(0, -1, 1), Due.BAD);
        due.is("5 refused", x.told(0, 35), 9);
        due.is("5 world(0, 0, 36) again", x.world(0, 0, 36), 36);
        due.is("5 all 0", x.told(0, 35), 0);
        x.price(0, 1, 8);
        x.world(0, 1, 1);
        x.world(0, 1, 2);
        due.is("5 no old price comes back", x.told(0, 1), 0);
        due.is("5 shorts", x.price(0, 1, 1000), 0);
    }

    private static void lose() {
        HourStore x = new HourStore();
        x.world(2, 1, 7);
        x.price(2, 0, 5);
        due.is("6 lose(4)", x.lose(4), Due.BAD);
        due.is("6 lose(-1)", x.lose(-1), Due.BAD);
        due.is("6 lose(1)", x.lose(1), Due.NOTHING);
        due.is("6 lose(2)", x.lose(2), 7);
        due.is("6 lose(2) again", x.lose(2), Due.NOTHING);
        due.is("6 its price", x.told(2, 0), 0);
        due.is("6 price(2, 0, 1)", x.price(2, 0, 1), Due.NOTHING);
        due.is("6 WORLDS", x.count(4), 0);
        x.world(0, 0, 0);
        due.is("6 a row of no places", x.lose(0), 0);
    }

    private static void price() {
        HourStore x = new HourStore();
        int[] limits = {100, 1000, 10000};
        for (int width = 0; width < 3; width++) {
            int limit = limits[width];
            x.world(width, width, 3);
            due.is("7 top of WIDTH " + width, x.price(width, 2, limit), 0);
            due.is("7 bottom of WIDTH " + width, x.price(width, 2, -limit), limit);
            due.is("7 above WIDTH " + width, x.price(width, 2, limit + 1), Due.BAD);
            due.is("7 below WIDTH " + width, x.price(width, 2, -limit - 1), Due.BAD);
            due.is("7 refused in WIDTH " + width, x.told(width, 2), -limit);
        }
        due.is("7 price(0, 3, 101): INDEX first", x.price(0, 3, 101), Due.INDEX);
        due.is("7 price(0, -1, 0)", x.price(0, -1, 0), Due.INDEX);
        due.is("7 price(0, MAX, 0)", x.price(0, Integer.MAX_VALUE, 0), Due.INDEX);
        due.is("7 price(3, -1, 99999): NOTHING first", x.price(3, -1, 99999), Due.NOTHING);
        due.is("7 price(4, 0, 0)", x.price(4, 0, 0), Due.BAD);
        due.is("7 price(-1, 0, 0)", x.price(-1, 0, 0), Due.BAD);
        x.world(3, 0, 0);
        due.is("7 price(3, 0, 0) of no places", x.price(3, 0, 0), Due.INDEX);
    }

    private static void copyAnswers() {
        HourStore x = new HourStore();
        Due.prices(x, 0, 1, 2, 3, 4);
        Due.prices(x, 1, 9, 8);
        due.is("8 copy(0, 1, 1, 0, 2)", x.copy(0, 1, 1, 0, 2), 2);
        due.is("8 told(1, 0)", x.told(1, 0), 2);
        due.is("8 told(1, 1)", x.told(1, 1), 3);
        due.is("8 the source stays", x.told(0, 1), 2);
        due.is("8 none, at the ends", x.copy(0, 4, 1, 2, 0), 0);
        due.is("8 none, within", x.copy(0, 0, 1, 1, 0), 0);
        due.is("8 the target stays", x.told(1, 1), 3);
    }

    private static void copyMoves() {
        HourStore x = new HourStore();
        Due.prices(x, 0, 1, 2, 3, 4, 5);
        due.is("8 onto itself, later", x.copy(0, 0, 0, 1, 4), 4);
        long[] later = {1, 1, 2, 3, 4};
        for (int i = 0; i < 5; i++) {
            due.is("8 later, " + i, x.told(0, i), later[i]);
        }
        due.is("8 onto itself, earlier", x.copy(0, 2, 0, 0, 3), 3);
        long[] earlier = {2, 3, 4, 3, 4};
        for (int i = 0; i < 5; i++) {
            due.is("8 earlier, " + i, x.told(0, i), earlier[i]);
        }
    }

    private static void copyRefused() {
        HourStore x = new HourStore();
        Due.prices(x, 0, 1, 2, 3, 4);
        Due.prices(x, 1, 9, 8);
        x.world(2, 0, 4);
        due.is("8 from -1", x.copy(-1, 0, 3, 0, 1), Due.BAD);
        due.is("8 to 4", x.copy(3, 0, 4, 0, 1), Due.BAD);
        due.is("8 from a MISSING one", x.copy(3, 0, 0, 0, 1), Due.NOTHING);
        due.is("8 to a MISSING one", x.copy(0, -1, 3, 0, 1), Due.NOTHING);
        due.is("8 unlike WIDTHS", x.copy(0, -1, 2, 0, 1), Due.NO);
        int[][] wrong = {{-1, 0, 1}, {0, -1, 1}, {3, 0, 2}, {0, 1, 2}, {0, 0, 3}, {0, 0, -1}, {5, 0, 0}, {0, 3, 0},
            {Integer.MAX_VALUE, 0, 1}, {1, 0, Integer.MAX_VALUE}, {0, Integer.MAX_VALUE, Integer.MAX_VALUE}, {1, 1, Integer.MIN_VALUE}};
        for (int[] w : wrong) {
            due.is("8 copy(0, " + w[0] + ", 1, " + w[1] + ", " + w[2] + ")", x.copy(0, w[0], 1, w[1], w[2]), Due.INDEX);
        }
        due.is("8 refused", x.told(1, 0), 9);
        due.is("8 refused", x.told(1, 1), 8);
    }

    private static void told() {
        HourStore x = new HourStore();
        Due.prices(x, 3, 7, -6);
        due.is("9 told(3, 0)", x.told(3, 0), 7);
        due.is("9 told(3, 1)", x.told(3, 1), -6);
        due.is("9 no such place", x.told(3, 2), 0);
        due.is("9 told(3, 35)", x.told(3, 35), 0);
        due.is("9 MISSING", x.told(0, 0), 0);
        due.is("9 told(3, 36)", x.told(3, 36), Due.BAD);
        due.is("9 told(3, -1)", x.told(3, -1), Due.BAD);
        due.is("9 told(-1, 0)", x.told(-1, 0), Due.BAD);
        due.is("9 told(4, 0)", x.told(4, 0), Due.BAD);
        x.time(1);
        due.is("9 behind T", x.told(3, 1), -6);
    }
}
