import java.io.IOException;
import java.lang.reflect.Array;
import java.lang.reflect.Field;
import java.lang.reflect.InvocationTargetException;
import java.lang.reflect.Method;
import java.lang.reflect.Modifier;
import java.nio.file.Files;
import java.nio.file.Path;
import java.util.ArrayDeque;
import java.util.ArrayList;
import java.util.Collections;
import java.util.Deque;
import java.util.HashMap;
import java.util.IdentityHashMap;
import java.util.List;
import java.util.Map;
import java.util.Random;
import java.util.Set;
import java.util.TreeSet;
import java.util.regex.Matcher;
import java.util.regex.Pattern;

/** The face of the class, as the document shows it; whatever its calls are given, none throws or makes what stays. */
public final class FaceTest {
    private static final Path DOCUMENT = Path.of("../shared/DOC.md"), CLASS = Path.of("src/main/java/TideDesk.java");
    private static final Pattern METHOD = Pattern.compile("public (\\w+ \\w+\\(.*\\));");
    private static final Pattern PROMISED = Pattern.compile("## Promise (\\d+): [^\\n]+\\n\\n`([^`]+)`: ");
    private static final Pattern SECTION = Pattern.compile("Ahead of the calls (.*) the interface says: (---- .*)\\.");
    private static final int CALLS = 512, PROMISES = 55, SEEDS = 120;
    /** What one desk may take of the room that all calls of one run have. */
    private static final int MOST_OBJECTS = 200, MOST_ELEMENTS = 10000;
    private static final int[] EDGES = {Integer.MIN_VALUE, Integer.MIN_VALUE + 1, -2592000, -86400, -32769, -32768, -1001,
        -1000, -7, -6, -2, -1, 0, 1, 2, 3, 4, 5, 6, 7, 8, 9, 10, 11, 12, 13, 15, 16, 29, 30, 39, 40, 48, 49, 59, 60, 61,
        119, 120, 121, 200, 201, 1000, 1001, 2000, 3000, 3001, 5000, 5001, 7200, 7201, 9999, 32767, 32768, 43199, 43200,
        50000, 50001, 60000, 65535, 65536, 86399, 86400, 86401, 1000000, 1000001, 2591999, 2592000, 0x41a00000,
        0x41a00001, 0x7f800000, 0x7f800001, 0x7fc00000, 0x80000001, 0xc1a00000, 0xff800000, 0xff800001,
        Integer.MAX_VALUE - 86400, Integer.MAX_VALUE - 1, Integer.MAX_VALUE};

    private static int wrong;

    private FaceTest() {
    }

    public static void main(String[] args) throws IOException, ReflectiveOperationException {
        if (Files.exists(DOCUMENT)) {
            String document = Files.readString(DOCUMENT);
            List<String> face = faceOf(document);
            String text = Files.readString(CLASS);
            constants(face, text);
            members(face);
            letters(face, text);
            promises(document, face);
            sections(document, text);
        }
        noCallThrows();
        nothingIsMade();
        System.out.println(wrong == 0 ? "the face is that of the document" : wrong + " things of the face are not so");
        if (wrong != 0) {
            System.exit(1);
        }
    }

    private static void due(String what, Object got, Object want) {
        if (!got.equals(want)) {
            wrong++;
            System.out.println(what + ": " + got + ", due is " + want);
        }
    }

    /** The lines of the document's class, trimmed, without its first and its last. */
    private static List<String> faceOf(String document) {
        String begin = "public final class TideDesk {\n";
        int from = document.indexOf(begin) + begin.length();
        List<String> lines = new ArrayList<>();
        for (String line : document.substring(from, document.indexOf("\n}", from)).split("\n")) {
            lines.add(line.trim());
        }
        return lines;
    }

    private static void constants(List<String> face, String text) throws ReflectiveOperationException {
        due("the constants", text.contains("\n    " + face.get(0) + "\n"), true);
        Matcher m = Pattern.compile("(\\w+) = (-?\\d+)").matcher(face.get(0));
        Set<String> named = new TreeSet<>();
        while (m.find()) {
            Field field = TideDesk.class.getField(m.group(1));
            due(m.group(1), field.getInt(null), Integer.parseInt(m.group(2)));
            due(m.group(1) + " is", field.getType() + " " + Modifier.toString(field.getModifiers()),
                "int public static final");
            named.add(m.group(1));
        }
        Set<String> open = new TreeSet<>();
        for (Field field : TideDesk.class.getDeclaredFields()) {
            if (!Modifier.isPrivate(field.getModifiers())) {
                open.add(field.getName());
            }
        }
        due("fields that are not private", open, named);
    }

    private static void members(List<String> face) {
        due("the class", Modifier.toString(TideDesk.class.getModifiers()), "public final");
        due("its name, without a package", TideDesk.class.getName(), "TideDesk");
        due("what it extends", TideDesk.class.getSuperclass(), Object.class);
        due("constructors", TideDesk.class.getDeclaredConstructors().length, 1);
        due("the constructor", TideDesk.class.getDeclaredConstructors()[0].toString(), "public TideDesk()");
        Set<String> want = new TreeSet<>();
        for (String line : face) {
            Matcher m = METHOD.matcher(line);
            if (m.matches()) {
                want.add(m.group(1).replaceAll("(int|boolean) \\w+(?=[,)])", "$1").replace(", ", ","));
            }
        }
        Set<String> got = new TreeSet<>();
        for (Method method : TideDesk.class.getDeclaredMethods()) {
            boolean open = Modifier.isPublic(method.getModifiers());
            if (open) {
                got.add(method.toString().replace("public ", "").replace("TideDesk.", ""));
            }
            due(method.getName() + " is open or closed", open || Modifier.isPrivate(method.getModifiers()), true);
        }
        due("methods", got, want);
    }

    /** The class has each line of the face, in its order, with the names of its numbers. */
    private static void letters(List<String> face, String text) {
        int place = text.indexOf("public final class TideDesk {");
        for (String line : face.subList(1, face.size())) {
            int next = text.indexOf("\n    " + line.replace(";", " {") + "\n", place);
            due("the class has, in its turn: " + line, next >= 0, true);
            place = Math.max(place, next);
        }
    }

    private static void promises(String document, List<String> face) {
        Matcher m = PROMISED.matcher(document);
        int number = 0;
        while (m.find()) {
            number++;
            due("number of a promise", m.group(1), "" + number);
            due("promise " + number, face.get(number), "public " + m.group(2) + ";");
        }
        due("promises", number, PROMISES);
        due("lines of the face", face.size(), PROMISES + 1);
    }

    /** Each call stands behind the comment that the document sets ahead of it. */
    private static void sections(String document, String text) {
        Map<String, String> ahead = new HashMap<>();
        String last = "";
        for (String line : text.split("\n")) {
            Matcher m = Pattern.compile("    public \\w+ (\\w+)\\(.*").matcher(line);
            if (line.startsWith("    // ----")) {
                last = line.substring("    // ".length());
            } else if (m.matches()) {
                ahead.put(m.group(1), last);
            }
        }
        Matcher m = SECTION.matcher(document);
        int sections = 0;
        while (m.find()) {
            sections++;
            for (String name : m.group(1).replace("`", "").split(", ")) {
                due("what is ahead of " + name, ahead.getOrDefault(name, "nothing"), m.group(2));
            }
        }
        due("sections", sections, 7);
    }

    /** The methods of the face, in an order of their own. */
    private static List<Method> calls() {
        List<Method> calls = new ArrayList<>();
        for (Method method : TideDesk.class.getDeclaredMethods()) {
            if (Modifier.isPublic(method.getModifiers())) {
                calls.add(method);
            }
        }
        calls.sort((a, b) -> a.getName().compareTo(b.getName()));
        return calls;
    }

    private static void noCallThrows() throws ReflectiveOperationException {
        for (int seed = 0; seed < SEEDS; seed++) {
            drawCalls(new TideDesk(), CALLS, seed);
            drawCalls(Harbour.make(), CALLS - Harbour.callsMade(), SEEDS + seed);
            drawCalls(Harbour.spent(), CALLS - Harbour.callsMade() - 25, 2 * SEEDS + seed);
        }
    }

    /** Calls with numbers at all edges and small ones, so that some name what is there and some do not. */
    private static void drawCalls(TideDesk x, int many, int seed) throws ReflectiveOperationException {
        Random random = new Random(seed);
        List<Method> calls = calls();
        for (int i = 0; i < many; i++) {
            Method call = calls.get(random.nextInt(calls.size()));
            Object[] numbers = new Object[call.getParameterCount()];
            for (int j = 0; j < numbers.length; j++) {
                int edge = random.nextInt(4) == 0 ? EDGES[random.nextInt(EDGES.length)] : random.nextInt(8);
                numbers[j] = call.getParameterTypes()[j] == boolean.class ? (Object) (edge % 2 == 0) : edge;
            }
            try {
                call.invoke(x, numbers);
            } catch (InvocationTargetException e) {
                due(call.getName() + List.of(numbers), e.getCause().toString(), "no exception");
            }
        }
    }

    /** All that a desk is made of is made with it: behind its calls it is the same objects, and no other. */
    private static void nothingIsMade() throws ReflectiveOperationException {
        for (int seed = 0; seed < SEEDS; seed++) {
            TideDesk x = seed % 2 == 0 ? new TideDesk() : Harbour.make();
            Map<Object, Integer> before = partsOf(x);
            drawCalls(x, CALLS - Harbour.callsMade(), 3 * SEEDS + seed);
            Map<Object, Integer> behind = partsOf(x);
            Set<Object> made = Collections.newSetFromMap(new IdentityHashMap<>());
            made.addAll(behind.keySet());
            made.removeAll(before.keySet());
            due("what calls made", made.size(), 0);
            due("what a desk is made of", behind.size(), before.size());
            int elements = before.values().stream().mapToInt(Integer::intValue).sum();
            due(before.size() + " objects and arrays are few", before.size() <= MOST_OBJECTS, true);
            due(elements + " fields and elements are few", elements <= MOST_ELEMENTS, true);
        }
    }

    /** The desk and all objects and arrays that it holds, with how many fields or elements each has. */
    private static Map<Object, Integer> partsOf(TideDesk x) throws ReflectiveOperationException {
        Map<Object, Integer> parts = new IdentityHashMap<>();
        Deque<Object> open = new ArrayDeque<>();
        open.add(x);
        while (!open.isEmpty()) {
            Object part = open.remove();
            if (parts.containsKey(part)) {
                continue;
            }
            if (part.getClass().isArray()) {
                due("an array is of numbers", part.getClass().getComponentType().isPrimitive(), true);
                parts.put(part, Array.getLength(part));
                continue;
            }
            int fields = 0;
            for (Field field : part.getClass().getDeclaredFields()) {
                if (!Modifier.isStatic(field.getModifiers())) {
                    fields++;
                    field.setAccessible(true);
                    if (!field.getType().isPrimitive()) {
                        open.add(field.get(part));
                    }
                }
            }
            parts.put(part, fields);
        }
        return parts;
    }
}
