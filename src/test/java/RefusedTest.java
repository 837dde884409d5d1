import java.lang.reflect.InvocationTargetException;
import java.lang.reflect.Method;
import java.util.ArrayList;
import java.util.Arrays;
import java.util.Comparator;
import java.util.List;

/**
 * Calls with all kinds of arguments never throw; calls that are refused, and calls that only ask, change nothing:
 * an object that went through them answers as one that did not.
 * No object gets more than 512 calls.
 */
public final class RefusedTest {
    private static final Due due = new Due();
    private static final int CALLS = 60;
    private static final List<String> ASKING = List.of("told", "about", "isOf", "planned", "behind", "why", "money", "worst",
        "many", "value", "taken", "wanted", "counts", "row", "check", "voided", "count");
    private static final List<Long> REFUSALS = List.of(Due.BAD, Due.NO, Due.FULL, Due.NONE, Due.NOTHING, Due.INDEX, Due.SIZE);

    private record Call(Method method, Object[] args) {
        long on(HourStore x) throws IllegalAccessException, InvocationTargetException {
            return (Long) method.invoke(x, args);
        }
    }

    public static void main(String[] args) throws IllegalAccessException, InvocationTargetException {
        Method[] methods = HourStore.class.getDeclaredMethods();
        List<Method> face = new ArrayList<>();
        for (Method m : methods) {
            if (java.lang.reflect.Modifier.isPublic(m.getModifiers())) {
                face.add(m);
            }
        }
        face.sort(Comparator.comparing(Method::getName));
        for (int seed = 1; seed <= 3000; seed++) {
            runOf(face, seed);
        }
        everyMethodWild(face);
        due.end();
    }

    private static void runOf(List<Method> face, int seed) throws IllegalAccessException, InvocationTargetException {
        Lcg lcg = new Lcg(seed);
        HourStore all = new HourStore();
        HourStore few = new HourStore();
        prepare(all);
        prepare(few);
        for (int i = 0; i < CALLS; i++) {
            Method m = face.get(lcg.from(0, face.size() - 1));
            Call call = new Call(m, arguments(lcg, m.getParameterCount()));
            long answer = call.on(all);
            if (!REFUSALS.contains(answer) && !ASKING.contains(m.getName())) {
                due.is("seed " + seed + ": " + m.getName() + Arrays.toString(call.args()), call.on(few), answer);
            }
        }
        long[] one = seed % 2 == 0 ? stepsAndBook(all) : storesAndPrices(all);
        long[] other = seed % 2 == 0 ? stepsAndBook(few) : storesAndPrices(few);
        due.isTrue("seed " + seed + ": the same state", Arrays.equals(one, other));
    }

    private static void prepare(HourStore x) {
        x.time(3);
        x.store(0, 0, 9, Due.rates(3, 3), 0);
        x.world(0, 0, 3);
        x.price(0, 1, 5);
    }

    private static Object[] arguments(Lcg lcg, int many) {
        Object[] args = new Object[many];
        for (int i = 0; i < many; i++) {
            int sort = lcg.from(0, 9);
            if (sort == 0) {
                args[i] = Due.WILD[lcg.from(0, Due.WILD.length - 1)];
            } else if (sort == 1) {
                args[i] = lcg.from(-30, 500);
            } else {
                args[i] = lcg.from(0, 3);
            }
        }
        // With 22 and more a new STORE is likelier.
        if (many == 5 && lcg.from(0, 1) == 0) {
            args[3] = lcg.from(22, 110);
        }
        return args;
    }

    private static long[] storesAndPrices(HourStore x) {
        long[] seen = new long[4 * 11 + 4 * 36 + 4 * 36 + 8];
        int n = 0;
        for (int i = 0; i < 4; i++) {
            for (int what = 0; what <= 10; what++) {
                seen[n++] = x.about(i, what);
            }
            for (int t = 0; t < 36; t++) {
                seen[n++] = x.planned(i, t);
                seen[n++] = x.told(i, t);
            }
        }
        for (int what = 0; what < 8; what++) {
            seen[n++] = x.count(what);
        }
        return seen;
    }

    private static long[] stepsAndBook(HourStore x) {
        long[] seen = new long[3 * 36 + 12 + 5 * 60];
        int n = 0;
        for (int t = 0; t < 36; t++) {
            seen[n++] = x.dark(t, 0);
            seen[n++] = x.keep(t, 0);
            seen[n++] = x.meter(t, 0);
        }
        for (int i = 0; i < 12; i++) {
            seen[n++] = x.taken(i, 0);
        }
        for (int i = 0; i < 60; i++) {
            for (int what = 0; what < 5; what++) {
                seen[n++] = x.row(i, what);
            }
        }
        return seen;
    }

    /** Each argument in turn takes each wild number, the others are 0 or 1. */
    private static void everyMethodWild(List<Method> face) throws IllegalAccessException, InvocationTargetException {
        for (Method m : face) {
            HourStore x = new HourStore();
            prepare(x);
            for (int i = 0; i < m.getParameterCount(); i++) {
                for (int wild : Due.WILD) {
                    Object[] args = new Object[m.getParameterCount()];
                    Arrays.fill(args, 1);
                    args[0] = 0;
                    args[i] = wild;
                    new Call(m, args).on(x);
                }
            }
            due.is(m.getName() + ": still there", x.count(0), 1);
        }
    }
}
