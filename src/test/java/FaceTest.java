import java.io.IOException;
import java.lang.reflect.Array;
import java.lang.reflect.Constructor;
import java.lang.reflect.Field;
import java.lang.reflect.Method;
import java.lang.reflect.Modifier;
import java.nio.file.Files;
import java.nio.file.Path;
import java.util.ArrayList;
import java.util.Arrays;
import java.util.List;
import java.util.Set;
import java.util.TreeSet;
import java.util.regex.Matcher;
import java.util.regex.Pattern;

/** The public face, and the rules of LANGUAGE.md that reflection or a look at the text can tell. */
public final class FaceTest {
    private static final Due due = new Due();
    private static final String[] FACE = {
        "time 1", "dark 2", "keep 2", "world 3", "lose 1", "price 3", "copy 5", "told 2", "store 5", "charge 2", "end 2",
        "about 2", "isOf 2", "put 3", "planned 2", "behind 2", "why 1", "money 2", "worst 2", "best 2", "many 2", "value 4",
        "bid 4", "unbid 0", "taken 2", "wanted 2", "fill 2", "meter 2", "counts 1", "live 2", "row 2", "forge 3", "check 0",
        "shut 0", "warrant 2", "voided 1", "count 1"};
    private static final String[] FORBIDDEN = {"throw", "try", "catch", "synchronized", "assert", "package", "->", "::", "double",
        "float", "Exact", "hashCode", "toString", "System.out", "Random", "protected", "volatile", "native"};
    /** Rule 4: of the library, functions alone; a constant such as Long.MAX_VALUE does not stand there. */
    private static final Set<String> LIBRARY = Set.of("Arrays.fill", "Arrays.copyOf", "Arrays.copyOfRange", "System.arraycopy",
        "Math.abs", "Math.max", "Math.min", "Math.floorDiv", "Math.floorMod", "Integer.bitCount", "Integer.compare", "Long.compare");
    private static final Set<Class<?>> STATIC_TYPES = Set.of(int.class, long.class, boolean.class, char.class, String.class,
        int[].class, long[].class, char[].class, byte[].class);
    private static final int MOST_LINES = 60;
    /** A small part of the room, so that a run may make many objects. */
    private static final int MOST_ROOM = 4000;

    public static void main(String[] args) throws IOException, IllegalAccessException {
        constants();
        methods();
        nestedClasses();
        staticFields();
        room();
        String text = Files.readString(Path.of("src/main/java/HourStore.java"));
        words(text);
        library(text);
        made(text);
        lengths(text);
        due.end();
    }

    private static void constants() {
        due.is("BAD", HourStore.BAD, Due.BAD);
        due.is("NO", HourStore.NO, Due.NO);
        due.is("FULL", HourStore.FULL, Due.FULL);
        due.is("NONE", HourStore.NONE, Due.NONE);
        due.is("NOTHING", HourStore.NOTHING, Due.NOTHING);
        due.is("INDEX", HourStore.INDEX, Due.INDEX);
        due.is("SIZE", HourStore.SIZE, Due.SIZE);
        List<String> names = List.of("BAD", "NO", "FULL", "NONE", "NOTHING", "INDEX", "SIZE");
        for (Field f : HourStore.class.getDeclaredFields()) {
            due.isTrue("field " + f.getName(), names.contains(f.getName()) || Modifier.isPrivate(f.getModifiers()));
            due.isTrue("final " + f.getName(), Modifier.isFinal(f.getModifiers()));
        }
    }

    private static void methods() {
        due.isTrue("public final class", Modifier.isFinal(HourStore.class.getModifiers()) && Modifier.isPublic(HourStore.class.getModifiers()));
        Constructor<?>[] made = HourStore.class.getDeclaredConstructors();
        due.isTrue("one constructor", made.length == 1 && made[0].getParameterCount() == 0 && Modifier.isPublic(made[0].getModifiers()));
        List<String> seen = new ArrayList<>();
        TreeSet<String> names = new TreeSet<>();
        for (Method m : HourStore.class.getDeclaredMethods()) {
            if (!Modifier.isPrivate(m.getModifiers())) {
                seen.add(m.getName() + " " + m.getParameterCount());
                names.add(m.getName());
                due.isTrue(m.getName() + " answers a long", m.getReturnType() == long.class && Modifier.isPublic(m.getModifiers()));
                due.isTrue(m.getName() + " takes ints", Arrays.stream(m.getParameterTypes()).allMatch(p -> p == int.class));
            }
        }
        String[] face = FACE.clone();
        Arrays.sort(face);
        seen.sort(null);
        due.isTrue("the face is " + seen, seen.equals(List.of(face)));
        for (Class<?> c : HourStore.class.getDeclaredClasses()) {
            for (Method m : c.getDeclaredMethods()) {
                due.isTrue(c.getName() + "." + m.getName() + " has a name of its own", !names.contains(m.getName()));
            }
        }
        for (Method m : HourStore.class.getDeclaredMethods()) {
            due.isTrue("private " + m.getName(), !Modifier.isPrivate(m.getModifiers()) || !names.contains(m.getName()));
            due.isTrue("parameters of " + m.getName(), m.getParameterCount() <= 7);
        }
    }

    private static void nestedClasses() {
        Class<?>[] nested = HourStore.class.getDeclaredClasses();
        due.isTrue("at most twelve classes", nested.length <= 12);
        for (Class<?> c : nested) {
            due.isTrue("static " + c, Modifier.isStatic(c.getModifiers()));
            due.isTrue("not public " + c, !Modifier.isPublic(c.getModifiers()));
            due.isTrue("fields of " + c, c.getDeclaredFields().length <= 20);
        }
    }

    /** Rule 5. */
    private static void staticFields() {
        for (Class<?> c : allClasses()) {
            for (Field f : c.getDeclaredFields()) {
                if (Modifier.isStatic(f.getModifiers())) {
                    due.isTrue("5 " + f, Modifier.isFinal(f.getModifiers()) && STATIC_TYPES.contains(f.getType()));
                }
            }
        }
    }

    private static List<Class<?>> allClasses() {
        List<Class<?>> all = new ArrayList<>(List.of(HourStore.class.getDeclaredClasses()));
        all.add(HourStore.class);
        return all;
    }

    /** The fields and elements of a new object, of its rows and of its parts. */
    private static void room() throws IllegalAccessException {
        long room = roomOf(new HourStore());
        due.isTrue("fields and elements of an object: " + room, room > 0 && room <= MOST_ROOM);
    }

    private static long roomOf(Object part) throws IllegalAccessException {
        if (part == null) {
            return 0;
        }
        long sum = 0;
        if (part instanceof Object[] parts) {
            for (Object one : parts) {
                sum += 1 + roomOf(one);
            }
            return sum;
        }
        if (part.getClass().isArray()) {
            return Array.getLength(part);
        }
        for (Field f : part.getClass().getDeclaredFields()) {
            if (!Modifier.isStatic(f.getModifiers())) {
                f.setAccessible(true);
                sum += 1 + (f.getType().isPrimitive() ? 0 : roomOf(f.get(part)));
            }
        }
        return sum;
    }

    private static void words(String text) {
        due.isTrue("characters 0 to 255", text.chars().allMatch(c -> c < 256));
        for (String word : FORBIDDEN) {
            boolean there = Character.isLetter(word.charAt(0))
                ? Pattern.compile("\\b" + word.replace(".", "\\.") + "\\b").matcher(text).find()
                : text.contains(word);
            due.isTrue("without " + word, !there);
        }
    }

    /** Rule 4. */
    private static void library(String text) {
        Matcher used = Pattern.compile("\\b(Arrays|System|Math|Integer|Long|Short|Byte|Character|Boolean|String|List)\\.\\w+").matcher(text);
        while (used.find()) {
            due.isTrue("4 " + used.group(), LIBRARY.contains(used.group()));
        }
        Matcher imported = Pattern.compile("\\bimport\\s+([\\w.]+)").matcher(text);
        while (imported.find()) {
            due.isTrue("4 import " + imported.group(1), imported.group(1).equals("java.util.Arrays"));
        }
        due.isTrue("4 no name of the library at full length", !Pattern.compile("(?m)^(?!import ).*\\bjavax?\\.").matcher(text).find());
    }

    /** Rule 12: constructors hand out nothing (those of the parts take nothing), and only they make objects. */
    private static void made(String text) {
        for (Class<?> c : allClasses()) {
            for (Constructor<?> made : c.getDeclaredConstructors()) {
                due.is("12 parameters of " + made, made.getParameterCount(), 0);
            }
        }
        int from = text.indexOf("public HourStore() {");
        int to = text.indexOf("\n    }", from);
        due.isTrue("12 the constructor", from >= 0 && to > from);
        String rest = text.substring(0, from) + text.substring(to);
        for (String line : rest.split("\n")) {
            boolean makes = Pattern.compile("\\bnew\\s+\\w+\\s*[\\[({]").matcher(line).find();
            due.isTrue("12 made only with the object: " + line.strip(), !makes || line.strip().startsWith("final "));
        }
    }

    /** Rule 11: from a line that opens a method to the brace that closes it, both as the code is set. */
    private static void lengths(String text) {
        int methods = 0;
        int opened = -1;
        String end = "";
        String[] lines = text.split("\n");
        for (int i = 0; i < lines.length; i++) {
            Matcher head = Pattern.compile("^( +)[\\w \\[\\]]+\\([^;]*\\) \\{$").matcher(lines[i]);
            if (opened < 0 && head.find() && (head.group(1).length() == 4 || head.group(1).length() == 8)) {
                opened = i;
                end = head.group(1) + "}";
                methods++;
            } else if (opened >= 0 && lines[i].equals(end)) {
                due.isTrue("11 lines of the method at line " + (opened + 1), i - opened < MOST_LINES);
                opened = -1;
            }
        }
        due.isTrue("11 methods are found: " + methods, methods > FACE.length && opened < 0);
    }
}
