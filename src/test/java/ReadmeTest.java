import java.io.IOException;
import java.lang.reflect.Method;
import java.lang.reflect.Modifier;
import java.net.URL;
import java.net.URLClassLoader;
import java.nio.file.DirectoryStream;
import java.nio.file.Files;
import java.nio.file.Path;
import java.util.ArrayList;
import java.util.List;
import java.util.regex.Matcher;
import java.util.regex.Pattern;
import javax.tools.ToolProvider;

/** The calls that README.md shows are compiled and made, and their answers held against those that it tells. */
public final class ReadmeTest {
    private static final Pattern CALL = Pattern.compile("(?:int (\\w+) = )?(desk\\..*|\\w+\\.\\w+\\(desk\\..*);\\s+// (\\S+): .+");
    private static final Pattern NAMED = Pattern.compile("`(\\w+Test|Model|Harbour|Checks)`");
    private static final String BEGINNING = "TideDesk desk = new TideDesk();";

    private static int wrong;

    private ReadmeTest() {
    }

    public static void main(String[] args) throws IOException, ReflectiveOperationException {
        List<String> lines = Files.readAllLines(Path.of("README.md"));
        dueTrue("says how to use the class", lines.contains("## How to use it"));
        dueTrue("says how to run its tests", lines.contains("## How to run its tests"));
        dueTrue(".ci/run can be run", lines.contains("    .ci/run") && Files.isExecutable(Path.of(".ci/run")));
        dueNamed(String.join("\n", lines));
        List<String> code = linesOfCode(lines);
        dueShown(String.join("\n", code));
        makeCalls(code);
        System.out.println(wrong == 0 ? "README.md says what is so" : "README.md: " + wrong + " things are not so");
        if (wrong != 0) {
            System.exit(1);
        }
    }

    private static void dueTrue(String what, boolean is) {
        if (!is) {
            wrong++;
            System.out.println("README.md: not so: " + what);
        }
    }

    /** What the generated class calls for each line. */
    public static void due(String line, Object got, Object want) {
        dueTrue(line + " (it answers " + got + ")", got.toString().equals(want.toString()));
    }

    /** Each test is named, and each that is named stands. */
    private static void dueNamed(String text) throws IOException {
        try (DirectoryStream<Path> tests = Files.newDirectoryStream(Path.of("src/test/java"), "*Test.java")) {
            for (Path test : tests) {
                String name = test.getFileName().toString().replace(".java", "");
                dueTrue(name + " is named", text.contains("- `" + name + "`: "));
            }
        }
        Matcher named = NAMED.matcher(text);
        while (named.find()) {
            String name = named.group(1);
            dueTrue(name + " stands", Files.exists(Path.of("src/test/java/" + name + ".java")));
        }
    }

    /** Each call of the class is shown. */
    private static void dueShown(String code) {
        for (Method call : TideDesk.class.getDeclaredMethods()) {
            boolean is = !Modifier.isPublic(call.getModifiers()) || code.contains("desk." + call.getName() + "(");
            dueTrue(call.getName() + "() is shown", is);
        }
    }

    private static List<String> linesOfCode(List<String> lines) {
        List<String> code = new ArrayList<>();
        boolean is = false;
        for (String line : lines) {
            if (line.startsWith("```")) {
                is = line.equals("```java");
            } else if (is) {
                code.add(line);
            }
        }
        return code;
    }

    private static void makeCalls(List<String> code) throws IOException, ReflectiveOperationException {
        StringBuilder made = new StringBuilder("public class ReadmeCalls {\npublic static void make() {\n");
        for (String line : code) {
            Matcher call = CALL.matcher(line);
            if (line.equals(BEGINNING)) {
                made.append(line).append('\n');
            } else if (call.matches()) {
                made.append(call.group(1) == null ? "" : "int " + call.group(1) + " = " + call.group(2) + ";\n");
                made.append("ReadmeTest.due(\"").append(line.replace("\"", "\\\"")).append("\", ")
                    .append(call.group(1) == null ? call.group(2) : call.group(1)).append(", ").append(call.group(3))
                    .append(");\n");
            } else {
                dueTrue(line + " tells a call and its answer", false);
            }
        }
        // The lines as they are shown must compile, too; they are not run a second time.
        made.append("}\nstatic void shown() {\n").append(String.join("\n", code)).append("\n} }\n");
        compileAndRun(made.toString());
    }

    private static void compileAndRun(String text) throws IOException, ReflectiveOperationException {
        Path built = Files.createTempDirectory("readme");
        Path file = built.resolve("ReadmeCalls.java");
        Path compiled = built.resolve("ReadmeCalls.class");
        try {
            Files.writeString(file, text);
            int answer = ToolProvider.getSystemJavaCompiler().run(null, null, null, "-cp",
                System.getProperty("java.class.path"), "-d", built.toString(), file.toString());
            dueTrue("the calls compile", answer == 0);
            if (answer == 0) {
                try (URLClassLoader loader = new URLClassLoader(new URL[] {built.toUri().toURL()})) {
                    loader.loadClass("ReadmeCalls").getMethod("make").invoke(null);
                }
            }
        } finally {
            Files.deleteIfExists(file);
            Files.deleteIfExists(compiled);
            Files.deleteIfExists(built);
        }
    }
}
