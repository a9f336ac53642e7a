import com.sun.management.ThreadMXBean;
import java.io.IOException;
import java.lang.management.ManagementFactory;
import java.lang.reflect.Array;
import java.lang.reflect.Constructor;
import java.lang.reflect.Field;
import java.lang.reflect.Method;
import java.lang.reflect.Modifier;
import java.nio.file.Files;
import java.nio.file.Path;
import java.util.Arrays;
import java.util.IdentityHashMap;
import java.util.List;
import java.util.Map;
import java.util.Set;
import java.util.TreeSet;
import java.util.regex.Matcher;
import java.util.regex.Pattern;

/** The public face of the document, the room that an object takes, and what LANGUAGE.md rules out. */
public final class FaceAndRoomTest {
    private static final List<String> FACE = List.of("feed 5", "trim 1", "program 0", "fault 0", "rule 3", "bits 2",
            "forget 0", "about 1", "step 2", "run 2", "ran 1", "note 1", "ahead 1", "walked 2", "told 1", "pair 4",
            "count 1");
    /** A room has 7.3 million fields and elements; so a hundred objects leave most of it free. */
    private static final long MOST_CELLS = 30000;
    private static final long MOST_OBJECTS = 100;

    public static void main(String[] args) throws Exception {
        face();
        classesInside();
        room();
        callsMakeNothing();
        language();
        Checks.end();
    }

    private static void face() {
        Class<?> c = SealKeeper.class;
        Checks.due("public final", Modifier.isPublic(c.getModifiers()) && Modifier.isFinal(c.getModifiers()));
        Set<String> methods = new TreeSet<>();
        for (Method m : c.getDeclaredMethods()) {
            if (!Modifier.isPrivate(m.getModifiers())) {
                methods.add(m.getName() + " " + m.getParameterCount());
                Checks.due(m + " is public", Modifier.isPublic(m.getModifiers()) && !Modifier.isStatic(m.getModifiers()));
                Checks.due(m + " answers an int", m.getReturnType() == int.class);
                Checks.due(m + " takes ints", Arrays.stream(m.getParameterTypes()).allMatch(t -> t == int.class));
            } else {
                Checks.due(m + " has a name of its own", FACE.stream().noneMatch(f -> f.startsWith(m.getName() + " ")));
            }
        }
        Checks.due("the methods", methods.equals(new TreeSet<>(FACE)));
        Set<String> constants = new TreeSet<>();
        for (Field f : c.getDeclaredFields()) {
            if (!Modifier.isPrivate(f.getModifiers())) {
                constants.add(f.getName());
            }
        }
        Checks.due("the constants", constants.equals(Set.of("NONE", "OUTSIDE", "STATE", "FULL", "MANY")));
        Constructor<?>[] made = c.getDeclaredConstructors();
        Checks.due("one constructor", made.length == 1 && made[0].getParameterCount() == 0
                && Modifier.isPublic(made[0].getModifiers()));
    }

    private static void classesInside() {
        Class<?>[] inside = SealKeeper.class.getDeclaredClasses();
        Checks.due("at most some twelve classes", inside.length < 12);
        for (Class<?> c : inside) {
            Checks.due(c + " is static", Modifier.isStatic(c.getModifiers()) && !Modifier.isPublic(c.getModifiers()));
            long fields = Arrays.stream(c.getDeclaredFields()).filter(f -> !Modifier.isStatic(f.getModifiers())).count();
            Checks.due(c + " has few fields", fields <= 20);
            for (Method m : c.getDeclaredMethods()) {
                Checks.due(m + " has few parameters", m.getParameterCount() <= 7);
                Checks.due(m + " has a name of its own", FACE.stream().noneMatch(f -> f.startsWith(m.getName() + " ")));
            }
        }
    }

    private static void room() throws Exception {
        Map<Object, Boolean> seen = new IdentityHashMap<>();
        long cells = cells(new SealKeeper(), seen);
        System.out.println("an object takes " + cells + " fields and elements in " + seen.size() + " objects and arrays");
        Checks.due("few cells", cells <= MOST_CELLS);
        Checks.due("few objects", seen.size() <= MOST_OBJECTS);
    }

    private static long cells(Object o, Map<Object, Boolean> seen) throws Exception {
        if (o == null || seen.put(o, true) != null) {
            return 0;
        }
        if (o.getClass().isArray()) {
            return Array.getLength(o);
        }
        long total = 0;
        for (Field f : o.getClass().getDeclaredFields()) {
            if (!Modifier.isStatic(f.getModifiers())) {
                f.setAccessible(true);
                total += 1 + (f.getType().isPrimitive() ? 0 : cells(f.get(o), seen));
            }
        }
        return total;
    }

    /** After the constructor no call makes an object, however dear it is. */
    private static void callsMakeNothing() {
        ThreadMXBean threads = (ThreadMXBean) ManagementFactory.getThreadMXBean();
        SealKeeper x = new SealKeeper();
        dearCalls(x);
        long thread = Thread.currentThread().getId();
        threads.getThreadAllocatedBytes(thread);
        long before = threads.getThreadAllocatedBytes(thread);
        for (int i = 0; i < 20; i++) {
            dearCalls(x);
        }
        long made = threads.getThreadAllocatedBytes(thread) - before;
        System.out.println("300 calls made " + made + " bytes of objects");
        Checks.due("calls make nothing", made < 2000);
    }

    private static void dearCalls(SealKeeper x) {
        // on 0{either{cut 1{call 0;}}or{ask 1 1;}}
        x.feed(0x6F6E2030, 0x7B656974, 0x6865727B, 0x63757420, 0x317B6361);
        x.feed(0x6C6C2030, 0x3B7D7D6F, 0x727B6173, 0x6B203120, 0x313B7D7D);
        x.program();
        x.bits(-1, 32);
        x.forget();
        x.run(0, 3000);
        x.ahead(0);
        x.pair(0, 0, 1, 1);
        // on 0{keep 0;under 0{later 0;call 0;}   }
        x.feed(0x6F6E2030, 0x7B6B6565, 0x7020303B, 0x756E6465, 0x7220307B);
        x.feed(0x6C617465, 0x7220303B, 0x63616C6C, 0x20303B7D, 0x2020207D);
        x.program();
        x.run(0, 3000);
        x.about(2);
        x.rule(0, 1, 3);
    }

    /** The source without comments and without what stands in texts. */
    private static String code() throws IOException {
        String source = Files.readString(Path.of("src/main/java/SealKeeper.java"));
        return source.replaceAll("(?s)/\\*.*?\\*/", "").replaceAll("//.*", "").replaceAll("\"[^\"\n]*\"", "\"\"");
    }

    private static void language() throws IOException {
        String code = code();
        for (String word : List.of("throw", "throws", "try", "catch", "finally", "synchronized", "assert", "package",
                "protected", "native", "volatile", "System.out", "hashCode", "toString", "float", "double")) {
            Checks.due("no " + word, !Pattern.compile("\\b" + word + "\\b").matcher(code).find());
        }
        Checks.due("no lambda", !code.contains("->"));
        Checks.due("no method reference", !code.contains("::"));
        Checks.due("no division", !Pattern.compile("[/%]").matcher(code).find());
        Matcher imports = Pattern.compile("import ([\\w.]+);").matcher(code);
        while (imports.find()) {
            Checks.due("import " + imports.group(1), imports.group(1).equals("java.util.Arrays"));
        }
        Matcher calls = Pattern.compile("\\b(Arrays|Math|System|Integer|Long)\\.(\\w+)").matcher(code);
        while (calls.find()) {
            Checks.due(calls.group(), List.of("fill", "max", "min", "arraycopy").contains(calls.group(2)));
        }
        int lines = 0;
        for (String line : code.split("\n")) {
            boolean head = line.matches(" {4,8}[\\w\\[\\]]+.*\\) \\{") && !line.matches(" *(if|for|while|switch|\\}).*");
            lines = head ? 0 : lines + 1;
            if (line.matches(" {4,8}\\}")) {
                Checks.due("short methods", lines <= 60);
            }
        }
    }
}
