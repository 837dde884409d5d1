import java.io.IOException;
import java.lang.reflect.Constructor;
import java.lang.reflect.Field;
import java.lang.reflect.Method;
import java.lang.reflect.Modifier;
import java.nio.file.Files;
import java.nio.file.Path;
import java.util.ArrayList;
import java.util.Arrays;
import java.util.List;
import java.util.TreeSet;

/** The public face, and the rules of LANGUAGE.md that a look at the text can tell. */
public final class FaceTest {
    private static final Due due = new Due();
    private static final String[] FACE = {
        "time 1", "dark 2", "keep 2", "world 3", "lose 1", "price 3", "copy 5", "told 2", "store 5", "charge 2", "end 2",
        "about 2", "isOf 2", "put 3", "planned 2", "behind 2", "why 1", "money 2", "worst 2", "best 2", "many 2", "value 4",
        "bid 4", "unbid 0", "taken 2", "wanted 2", "fill 2", "meter 2", "counts 1", "live 2", "row 2", "forge 3", "check 0",
        "shut 0", "warrant 2", "voided 1", "count 1"};
    private static final String[] FORBIDDEN = {"throw", "try", "catch", "synchronized", "assert", "package", "->", "::", "double",
        "float", "Exact", "hashCode", "toString", "System.out", "Random", "protected", "volatile", "native"};

    public static void main(String[] args) throws IOException {
        constants();
        methods();
        nestedClasses();
        text();
        due.end();
    }

    private static void constants() {
        due.is("BAD", HourStore.BAD, Due.BAD);
        due.is("NO", HourStore.NO, Due.NO);
        due.is("FULL", HourStore.FULL, Due.FULL);
        due.is("NONE", HourStore.NONE, Due.NONE);
        due.is("NOTHING", HourStore.NOTHING, Due.NOTHING);
        due.is("INDEX", HourStore.INDEX, Due.INDEX);
        due.is("SIZE", HourStore.SIZE, Due.SIZE);
        List<String> names = List.of("BAD", "NO", "FULL", "NONE", "NOTHING", "INDEX", "SIZE");
        for (Field f : HourStore.class.getDeclaredFields()) {
            due.isTrue("field " + f.getName(), names.contains(f.getName()) || Modifier.isPrivate(f.getModifiers()));
            due.isTrue("final " + f.getName(), Modifier.isFinal(f.getModifiers()));
        }
    }

    private static void methods() {
        due.isTrue("public final class", Modifier.isFinal(HourStore.class.getModifiers()) && Modifier.isPublic(HourStore.class.getModifiers()));
        Constructor<?>[] made = HourStore.class.getDeclaredConstructors();
        due.isTrue("one constructor", made.length == 1 && made[0].getParameterCount() == 0 && Modifier.isPublic(made[0].getModifiers()));
        List<String> seen = new ArrayList<>();
        TreeSet<String> names = new TreeSet<>();
        for (Method m : HourStore.class.getDeclaredMethods()) {
            if (!Modifier.isPrivate(m.getModifiers())) {
                seen.add(m.getName() + " " + m.getParameterCount());
                names.add(m.getName());
                due.isTrue(m.getName() + " answers a long", m.getReturnType() == long.class && Modifier.isPublic(m.getModifiers()));
                due.isTrue(m.getName() + " takes ints", Arrays.stream(m.getParameterTypes()).allMatch(p -> p == int.class));
            }
        }
        String[] face = FACE.clone();
        Arrays.sort(face);
        seen.sort(null);
        due.isTrue("the face is " + seen, seen.equals(List.of(face)));
        for (Class<?> c : HourStore.class.getDeclaredClasses()) {
            for (Method m : c.getDeclaredMethods()) {
                due.isTrue(c.getName() + "." + m.getName() + " has a name of its own", !names.contains(m.getName()));
            }
        }
        for (Method m : HourStore.class.getDeclaredMethods()) {
            due.isTrue("private " + m.getName(), !Modifier.isPrivate(m.getModifiers()) || !names.contains(m.getName()));
            due.isTrue("parameters of " + m.getName(), m.getParameterCount() <= 7);
        }
    }

    private static void nestedClasses() {
        Class<?>[] nested = HourStore.class.getDeclaredClasses();
        due.isTrue("at most twelve classes", nested.length <= 12);
        for (Class<?> c : nested) {
            due.isTrue("static " + c, Modifier.isStatic(c.getModifiers()));
            due.isTrue("not public " + c, !Modifier.isPublic(c.getModifiers()));
            due.isTrue("fields of " + c, c.getDeclaredFields().length <= 20);
        }
    }

    private static void text() throws IOException {
        String text = Files.readString(Path.of("src/main/java/HourStore.java"));
        due.isTrue("characters 0 to 255", text.chars().allMatch(c -> c < 256));
        for (String word : FORBIDDEN) {
            boolean there = Character.isLetter(word.charAt(0))
                ? java.util.regex.Pattern.compile("\\b" + word.replace(".", "\\.") + "\\b").matcher(text).find()
                : text.contains(word);
            due.isTrue("without " + word, !there);
        }
    }
}
