import java.util.List;
import java.util.function.ToLongFunction;

/** Compares answers with those that are due, and ends a test with exit code 1 if one was not. */
final class Due {
    static final long BAD = -9000000000000000001L;
    static final long NO = -9000000000000000002L;
    static final long FULL = -9000000000000000003L;
    static final long NONE = -9000000000000000005L;
    static final long NOTHING = -9000000000000000011L;
    static final long INDEX = -9000000000000000013L;
    static final long SIZE = -9000000000000000014L;

    /** Arguments that are far outside of every range, and those next to 0. */
    static final int[] WILD = {Integer.MIN_VALUE, Integer.MIN_VALUE + 1, -1002, -101, -2, -1, 0, 1, 101, 1002, Integer.MAX_VALUE - 1, Integer.MAX_VALUE};

    static final List<Long> REFUSALS = List.of(BAD, NO, FULL, NOTHING, INDEX, SIZE);

    private int asked;
    private int wrong;

    void is(String call, long got, long want) {
        asked++;
        if (got != want) {
            wrong++;
            System.out.println(call + " answered " + got + ", due is " + want);
        }
    }

    void isTrue(String what, boolean holds) {
        is(what, holds ? 1 : 0, 1);
    }

    /** The call is not refused in this state. */
    void takes(String what, Made made, ToLongFunction<HourStore> call) {
        long got = call.applyAsLong(made.make());
        isTrue(what + " answered " + got + ", it was to be taken", !REFUSALS.contains(got));
    }

    /** The call answers this in this state, and all that can be seen of the object stays. */
    void refuses(String what, Made made, ToLongFunction<HourStore> call, long want) {
        for (int part = 0; part < Seen.PARTS; part++) {
            HourStore x = made.make();
            is(what, call.applyAsLong(x), want);
            isTrue(what + ": changes nothing, part " + part, Seen.of(x, part).equals(Seen.of(made.make(), part)));
        }
    }

    void end() {
        System.out.println(asked + " answers, " + wrong + " of them wrong");
        if (wrong != 0 || asked == 0) {
            System.exit(1);
        }
    }

    /** ratesInOut and lossWear as Promise 10 tells them. */
    static int rates(int in, int out) {
        return 21 * in + out;
    }

    static int lossWear(int loss, int wear) {
        return 101 * loss + wear;
    }

    /** A WORLD of ints with these prices. */
    static void prices(HourStore x, int world, int... prices) {
        row(x, world, 2, prices);
    }

    /** A WORLD of a WIDTH with these prices. */
    static void row(HourStore x, int world, int width, int... prices) {
        x.world(world, width, prices.length);
        for (int i = 0; i < prices.length; i++) {
            x.price(world, i, prices[i]);
        }
    }
}
