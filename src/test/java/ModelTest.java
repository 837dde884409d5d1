import java.lang.reflect.InvocationTargetException;
import java.lang.reflect.Method;
import java.util.ArrayList;
import java.util.Arrays;
import java.util.List;

/** Long runs of calls with all kinds of arguments: each answer is the one that the model has. */
public final class ModelTest {
    private static final Due due = new Due();
    private static final int RUNS = 300;
    private static final int CALLS = 512;
    private static final List<String> SELDOM = List.of("time", "store", "world", "lose", "shut", "unbid");

    private final Lcg lcg;
    /** In some runs T is small, so that THE BOOK and the PLANS see more. */
    private final int mostSteps;

    private ModelTest(int seed) {
        lcg = new Lcg(1000 + seed);
        mostSteps = seed % 3 == 0 ? 36 : 6;
    }

    public static void main(String[] args) throws IllegalAccessException, InvocationTargetException {
        for (int seed = 1; seed <= RUNS; seed++) {
            new ModelTest(seed).compare(seed);
        }
        due.end();
    }

    private void compare(int seed) throws IllegalAccessException, InvocationTargetException {
        HourStore x = new HourStore();
        Model model = new Model();
        List<Method> face = face();
        for (int i = 0; i < CALLS; i++) {
            Method m = i < 12 ? called(face, i < 4 ? "store" : i < 8 ? "world" : "time") : drawn(face);
            int[] a = arguments(m.getName(), m.getParameterCount());
            long got = (Long) m.invoke(x, Arrays.stream(a).boxed().toArray());
            due.is("seed " + seed + ", call " + i + ": " + m.getName() + Arrays.toString(a), got, model.answer(m.getName(), a));
        }
    }

    /** Calls that take much away come seldom, so that there is something to ask. */
    private Method drawn(List<Method> face) {
        Method m = face.get(lcg.from(0, face.size() - 1));
        return SELDOM.contains(m.getName()) && lcg.from(0, 14) != 0 ? drawn(face) : m;
    }

    private static List<Method> face() {
        List<Method> face = new ArrayList<>();
        for (Method m : HourStore.class.getDeclaredMethods()) {
            if (java.lang.reflect.Modifier.isPublic(m.getModifiers())) {
                face.add(m);
            }
        }
        face.sort(java.util.Comparator.comparing(Method::getName));
        // These make the state; the others ask it.
        for (String name : new String[] {"price", "price", "price", "put", "best", "fill", "live", "live", "charge", "bid", "forge"}) {
            face.add(called(face, name));
        }
        return face;
    }

    private static Method called(List<Method> face, String name) {
        for (Method m : face) {
            if (m.getName().equals(name)) {
                return m;
            }
        }
        throw new IllegalArgumentException(name);
    }

    /** Mostly from the range, at its edges more often than not, now and then beside it or anywhere. */
    private int near(int least, int most) {
        int sort = lcg.from(0, 59);
        if (sort == 0) {
            return Due.WILD[lcg.from(0, Due.WILD.length - 1)];
        }
        if (sort <= 2) {
            return sort == 1 ? least - 1 : most + 1;
        }
        if (sort <= 12) {
            return sort <= 7 ? least : most;
        }
        return lcg.from(least, most);
    }

    private int[] arguments(String name, int many) {
        int[] a = new int[many];
        for (int i = 0; i < many; i++) {
            int[] range = range(name, i);
            a[i] = near(range[0], range[1]);
        }
        if (name.equals("store") && lcg.from(0, 9) != 0) {
            a[3] = 21 * lcg.from(1, 20) + lcg.from(1, 20);
        }
        if (name.equals("bid") && lcg.from(0, 9) != 0) {
            a[1] = Math.max(a[0], a[1]);
        }
        return a;
    }

    private int[] range(String name, int i) {
        String ranges = " " + name + i + " ";
        if (" dark0 keep0 told1 meter0 counts0 ".contains(ranges)) {
            return new int[] {0, lcg.from(0, 1) == 0 ? 35 : mostSteps - 1};
        }
        if (" put1 planned1 behind1 wanted1 bid0 bid1 price1 ".contains(ranges)) {
            return new int[] {0, mostSteps - 1};
        }
        switch (name + i) {
            case "time0": return new int[] {1, mostSteps};
            case "dark1": return new int[] {0, 1};
            case "keep1": return new int[] {0, lcg.from(0, 1) == 0 ? 10 : 2};
            case "world1": return new int[] {0, 2};
            case "world2": return new int[] {0, 36};
            case "price2": return new int[] {-lcg.from(1, 3) * 40, 100};
            case "copy1": case "copy3": case "copy4": return new int[] {0, 5};
            case "store1": return new int[] {0, 4};
            case "store2": return new int[] {1, 60};
            case "store3": return new int[] {22, 440};
            case "store4": return new int[] {0, lcg.from(0, 1) == 0 ? 5150 : 5};
            case "charge1": case "value3": return new int[] {0, 30};
            case "end1": return new int[] {0, lcg.from(0, 3) == 0 ? 60 : 5};
            case "about1": return new int[] {0, 10};
            case "isOf1": return new int[] {0, 4};
            case "put2": return new int[] {-3, 3};
            case "worst1": case "best1": case "many1": case "value1": return new int[] {1, 15};
            case "value2": return new int[] {0, mostSteps};
            case "bid2": return new int[] {-20, 20};
            case "bid3": return new int[] {-50, 50};
            case "taken0": return new int[] {0, 11};
            case "meter1": return new int[] {-1001, 1000};
            case "row0": case "forge0": return new int[] {0, lcg.from(0, 1) == 0 ? 149 : 20};
            case "row1": return new int[] {0, 4};
            case "forge1": return new int[] {3, 4};
            case "forge2": return new int[] {-100, 100};
            case "warrant1": return new int[] {0, lcg.from(0, 1) == 0 ? 100000 : 30};
            case "count0": return new int[] {0, 7};
            default: return new int[] {0, 3};
        }
    }
}
