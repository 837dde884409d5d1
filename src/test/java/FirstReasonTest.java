import java.util.function.ToLongFunction;

/**
 * Calls with good and wrong arguments in every mixture, on an object with MISSING STORES and WORLDS:
 * of several reasons the one that stands first with the call is answered, and nothing changes.
 */
public final class FirstReasonTest {
    private static final Due due = new Due();
    private static final long FINE = 0;

    private static final int[] STORES = {-1, 0, 1, 4};
    private static final int[] WORLDS = {-1, 0, 2, 4};
    private static final int[] STEPS = {-1, 0, 3, 4};
    private static final int[] BITS = {0, 1, 15, 16};
    private static final int[] ANY_STEPS = {-1, 0, 35, 36};

    public static void main(String[] args) {
        timeAndPrices();
        price();
        copy();
        store();
        chargeAndPut();
        badThenMissing();
        badThenMissingThenIndex();
        someWorlds();
        value();
        bid();
        bidsAndMeters();
        live();
        book();
        due.end();
    }

    /** The first of the reasons that holds. */
    private static long first(long... reasons) {
        for (long reason : reasons) {
            if (reason != FINE) {
                return reason;
            }
        }
        return FINE;
    }

    private static long unless(boolean good, long reason) {
        return good ? FINE : reason;
    }

    private static long badUnless(boolean good) {
        return unless(good, Due.BAD);
    }

    private static boolean in(int v, int least, int most) {
        return v >= least && v <= most;
    }

    private static boolean isStore(int store) {
        return in(store, 0, 3);
    }

    private static boolean isWorld(int world) {
        return in(world, 0, 3);
    }

    /** NO: STORE 1 is MISSING. */
    private static long missing(int store) {
        return unless(store != 1, Due.NO);
    }

    private static void ask(String what, ToLongFunction<HourStore> call, long reason) {
        if (reason == FINE) {
            due.takes(what, Made.HALF, call);
        } else {
            due.refuses(what, Made.HALF, call, reason);
        }
    }

    private static String text(String name, int... args) {
        StringBuilder text = new StringBuilder(name);
        for (int arg : args) {
            text.append(' ').append(arg);
        }
        return text.toString();
    }

    private static void timeAndPrices() {
        for (int a : ANY_STEPS) {
            for (int b : new int[] {-1, 0, 1, 2, 10, 11}) {
                ask(text("3 dark", a, b), x -> x.dark(a, b), badUnless(in(a, 0, 35) && in(b, 0, 1)));
                ask(text("4 keep", a, b), x -> x.keep(a, b), badUnless(in(a, 0, 35) && in(b, 0, 10)));
            }
            for (int w : WORLDS) {
                ask(text("9 told", w, a), x -> x.told(w, a), badUnless(isWorld(w) && in(a, 0, 35)));
            }
        }
        for (int w : WORLDS) {
            for (int width : new int[] {-1, 0, 2, 3}) {
                for (int n : new int[] {-1, 0, 36, 37}) {
                    long reason = first(badUnless(isWorld(w)), badUnless(in(width, 0, 2)), badUnless(n <= 36), unless(n >= 0, Due.SIZE));
                    ask(text("5 world", w, width, n), x -> x.world(w, width, n), reason);
                }
            }
            ask(text("6 lose", w), x -> x.lose(w), first(badUnless(isWorld(w)), unless(w != 2, Due.NOTHING)));
        }
    }

    /** WORLD 0 has three places of shorts, WORLD 1 two of bytes. */
    private static void price() {
        for (int w : new int[] {-1, 0, 1, 2, 4}) {
            for (int place : new int[] {-1, 0, 1, 2, 3}) {
                for (int v : new int[] {-1001, -101, 0, 101, 1001}) {
                    boolean there = in(place, 0, w == 0 ? 2 : 1);
                    boolean fits = in(v, w == 0 ? -1000 : -100, w == 0 ? 1000 : 100);
                    long reason = first(badUnless(isWorld(w)), unless(w != 2, Due.NOTHING), unless(there, Due.INDEX), badUnless(fits));
                    ask(text("7 price", w, place, v), x -> x.price(w, place, v), reason);
                }
            }
        }
    }

    private static void copy() {
        int[] places = {3, 2, 0, 4};
        int[] widths = {1, 0, -1, 1};
        for (int from : new int[] {-1, 0, 1, 2, 3, 4}) {
            for (int to : new int[] {-1, 0, 1, 2, 4}) {
                for (int place : new int[] {-1, 0, 3}) {
                    for (int at : new int[] {-1, 0, 3}) {
                        for (int many : new int[] {-1, 0, 3}) {
                            boolean worlds = isWorld(from) && isWorld(to);
                            boolean there = worlds && from != 2 && to != 2;
                            boolean alike = there && widths[from] == widths[to];
                            boolean run = there && place >= 0 && at >= 0 && many >= 0
                                && place + many <= places[from] && at + many <= places[to];
                            long reason = first(badUnless(worlds), unless(there, Due.NOTHING), unless(alike, Due.NO), unless(run, Due.INDEX));
                            ask(text("8 copy", from, place, to, at, many), x -> x.copy(from, place, to, at, many), reason);
                        }
                    }
                }
            }
        }
    }

    private static void store() {
        for (int s : STORES) {
            for (int kind : new int[] {-1, 4, 5}) {
                for (int size : new int[] {0, 1, 61}) {
                    for (int rates : new int[] {21, 22, 441}) {
                        for (int lossWear : new int[] {-1, 0, 5151}) {
                            boolean good = isStore(s) && kind == 4 && size == 1 && rates == 22 && lossWear == 0;
                            ask(text("10 store", s, kind, size, rates, lossWear), x -> x.store(s, kind, size, rates, lossWear), badUnless(good));
                        }
                    }
                }
            }
        }
    }

    /** These ask the last argument behind all else; STORE 0 has THE FLOOR 2, THE TOP 16. */
    private static void chargeAndPut() {
        for (int s : STORES) {
            for (int v : new int[] {-1, 1, 2, 16, 17, 61}) {
                ask(text("11 charge", s, v), x -> x.charge(s, v), first(badUnless(isStore(s)), missing(s), badUnless(in(v, 2, 16))));
            }
            for (int step : STEPS) {
                for (int d : new int[] {-101, -100, 100, 101}) {
                    long reason = first(badUnless(isStore(s)), missing(s), unless(in(step, 0, 3), Due.INDEX), badUnless(in(d, -100, 100)));
                    ask(text("15 put", s, step, d), x -> x.put(s, step, d), reason);
                }
            }
        }
    }

    /** BAD stands ahead of NO, and tells of all arguments. */
    private static void badThenMissing() {
        for (int s : STORES) {
            boolean is = isStore(s);
            for (int v : new int[] {-1, 0, 3, 4, 5, 10, 11, 60, 61, 100000, 100001}) {
                ask(text("12 end", s, v), x -> x.end(s, v), first(badUnless(is && in(v, 0, 60)), missing(s)));
                ask(text("13 about", s, v), x -> x.about(s, v), first(badUnless(is && in(v, 0, 10)), missing(s)));
                ask(text("14 isOf", s, v), x -> x.isOf(s, v), first(badUnless(is && in(v, 0, 4)), missing(s)));
                ask(text("19 money", s, v), x -> x.money(s, v), first(badUnless(is && isWorld(v)), missing(s)));
                ask(text("28 fill", s, v), x -> x.fill(s, v), first(badUnless(is && isWorld(v)), missing(s)));
                ask(text("36 warrant", s, v), x -> x.warrant(s, v), first(badUnless(is && in(v, 0, 100000)), missing(s)));
            }
            ask(text("18 why", s), x -> x.why(s), first(badUnless(is), missing(s)));
            ask(text("37 voided", s), x -> x.voided(s), first(badUnless(is), missing(s)));
        }
    }

    private static void badThenMissingThenIndex() {
        for (int s : STORES) {
            for (int step : new int[] {-2, -1, 0, 3, 4}) {
                long reason = first(badUnless(isStore(s)), missing(s));
                ask(text("16 planned", s, step), x -> x.planned(s, step), first(reason, unless(in(step, 0, 3), Due.INDEX)));
                ask(text("17 behind", s, step), x -> x.behind(s, step), first(reason, unless(in(step, -1, 3), Due.INDEX)));
            }
        }
    }

    private static void someWorlds() {
        for (int s : STORES) {
            for (int bits : BITS) {
                long reason = first(badUnless(isStore(s) && in(bits, 1, 15)), missing(s));
                ask(text("20 worst", s, bits), x -> x.worst(s, bits), reason);
                ask(text("21 best", s, bits), x -> x.best(s, bits), reason);
                ask(text("22 many", s, bits), x -> x.many(s, bits), reason);
            }
        }
        due.refuses("21 best: none is ALLOWED", Made.HALF, x -> {
            x.end(2, 6);
            long answer = x.best(2, 1);
            x.end(2, 0);
            return answer;
        }, Due.NONE);
    }

    private static void value() {
        for (int s : STORES) {
            for (int bits : BITS) {
                for (int t : new int[] {-1, 0, 4, 5}) {
                    for (int c : new int[] {-1, 0, 20, 21}) {
                        long reason = first(badUnless(isStore(s) && in(bits, 1, 15)), missing(s), badUnless(in(t, 0, 4) && in(c, 0, 20)));
                        ask(text("23 value", s, bits, t, c), x -> x.value(s, bits, t, c), reason);
                    }
                }
            }
        }
    }

    private static void bid() {
        for (int first : STEPS) {
            for (int last : STEPS) {
                for (int amount : new int[] {-21, -20, 0, 20, 21}) {
                    for (int limit : new int[] {-10001, -10000, 10000, 10001}) {
                        boolean good = in(first, 0, 3) && in(last, 0, 3) && first <= last
                            && in(amount, -20, 20) && amount != 0 && in(limit, -10000, 10000);
                        ask(text("24 bid", first, last, amount, limit), x -> x.bid(first, last, amount, limit), badUnless(good));
                        // T is 5 there: STEP 4 is one of it.
                        boolean goodOfFull = in(first, 0, 4) && in(last, 0, 4) && first <= last
                            && in(amount, -20, 20) && amount != 0 && in(limit, -10000, 10000);
                        due.refuses(text("24 bid, FULL", first, last, amount, limit), Made.FULL,
                            x -> x.bid(first, last, amount, limit), goodOfFull ? Due.FULL : Due.BAD);
                    }
                }
            }
        }
    }

    private static void bidsAndMeters() {
        for (int w : WORLDS) {
            for (int i : new int[] {-1, 0, 1, 2}) {
                ask(text("26 taken", i, w), x -> x.taken(i, w), badUnless(in(i, 0, 1) && isWorld(w)));
            }
            for (int step : STEPS) {
                ask(text("27 wanted", w, step), x -> x.wanted(w, step), first(badUnless(isWorld(w)), unless(in(step, 0, 3), Due.INDEX)));
            }
        }
        for (int step : ANY_STEPS) {
            for (int v : new int[] {-1002, -1001, -1000, 1000, 1001}) {
                ask(text("29 meter", step, v), x -> x.meter(step, v), badUnless(in(step, 0, 35) && in(v, -1001, 1000)));
            }
        }
        due.refuses("25 unbid of none", Made.NEW, x -> x.unbid(), Due.NO);
    }

    private static void live() {
        for (int s : new int[] {-1, 0, 1, 2, 4}) {
            for (int w : WORLDS) {
                // The PLAN of STORE 2 is not ALLOWED.
                long reason = first(badUnless(isStore(s) && isWorld(w)), missing(s), unless(s != 2, Due.NO));
                ask(text("31 live", s, w), x -> x.live(s, w), reason);
                boolean good = isStore(s) && isWorld(w);
                due.refuses(text("31 live, FULL", s, w), Made.FULL, x -> x.live(s, w), good ? s == 0 ? Due.FULL : Due.NO : Due.BAD);
            }
        }
        due.refuses("31 live, not ALLOWED and FULL", Made.FULL, x -> {
            x.put(0, 0, 100);
            long answer = x.live(0, 0);
            x.put(0, 0, 1);
            return answer;
        }, Due.NO);
    }

    private static void book() {
        for (int i : new int[] {-1, 0, 7, 8}) {
            for (int what : new int[] {-1, 0, 2, 3, 4, 5}) {
                boolean row = in(i, 0, 7);
                ask(text("32 row", i, what), x -> x.row(i, what), badUnless(row && in(what, 0, 4)));
                for (int v : new int[] {-101, -100, 100, 101}) {
                    boolean good = row && (what == 4 || what == 3 && in(v, -100, 100));
                    ask(text("33 forge", i, what, v), x -> x.forge(i, what, v), badUnless(good));
                }
            }
        }
    }
}
