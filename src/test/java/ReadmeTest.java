import java.io.ByteArrayOutputStream;
import java.io.IOException;
import java.io.PrintStream;
import java.net.URL;
import java.net.URLClassLoader;
import java.nio.file.Files;
import java.nio.file.Path;
import java.util.ArrayList;
import java.util.List;
import java.util.TreeSet;
import java.util.regex.Matcher;
import java.util.regex.Pattern;
import java.util.stream.Stream;
import javax.tools.ToolProvider;

/**
 * README.md: its Java is compiled and run as it stands there, and each call with an answer behind it must
 * give that answer. The tests that it names are those that there are.
 */
public final class ReadmeTest {
    private static final Path README = Path.of("README.md");
    private static final Path TESTS = Path.of("src", "test", "java");
    private static final String REFUSED = "IndexOutOfBoundsException";

    private static final Pattern CALL = Pattern.compile("forms\\.(\\w+)\\(.*\\);.*");
    private static final Pattern SHOWN = Pattern.compile(
        "(forms\\.\\w+\\(.*?\\)); +// (-?\\d+|'.'|NONE|ZERO|ONE|true|false|" + REFUSED + ")(?!\\w).*");

    public static void main(String[] args) throws Exception {
        List<String> lines = Files.readAllLines(README);
        callsAnswerAsShown(lines);
        testsAreThoseNamed(lines);
        Check.end("ReadmeTest");
    }

    private static void callsAnswerAsShown(List<String> lines) throws Exception {
        List<String> shown = blocks(lines, "java");
        List<Object[]> answers = new ArrayList<>();
        String printed = run(program(shown), answers);
        for (Object[] answer : answers) {
            Check.same("README.md, " + answer[0], answer[1], answer[2]);
        }
        Check.same("README.md, what is printed", printed, String.join("\n", blocks(lines, "text")) + "\n");
        Check.same("methods that README.md shows", methodsIn(shown), methodsOfTheFace());
    }

    /** The lines of all blocks of one sort, one behind the other. */
    private static List<String> blocks(List<String> lines, String sort) {
        List<String> found = new ArrayList<>();
        String open = "";
        for (String line : lines) {
            if (line.startsWith("```")) {
                open = line.substring(3);
            } else if (open.equals(sort)) {
                found.add(line);
            }
        }
        return found;
    }

    private static String program(List<String> shown) {
        StringBuilder all = new StringBuilder("public final class ReadmeCalls {\n"
            + "public static void run(java.util.List<Object[]> answers) {\n");
        for (String line : shown) {
            Matcher call = SHOWN.matcher(line);
            if (call.matches()) {
                all.append(asked(call.group(1), call.group(2)));
            } else if (CALL.matcher(line).matches()) {
                throw new IllegalStateException("no answer that can be told is shown: " + line);
            } else {
                all.append(line).append('\n');
            }
        }
        return all.append("}\n}\n").toString();
    }

    private static String asked(String call, String due) {
        String value = due.startsWith("'") ? "(int) " + due
            : due.equals(REFUSED) ? "\"" + REFUSED + "\""
            : Character.isUpperCase(due.charAt(0)) ? "NetlistForms." + due
            : due;
        return "{ Object got; try { got = " + call + "; } catch (" + REFUSED + " e) { got = \"" + REFUSED
            + "\"; } answers.add(new Object[] {\"" + call + "\", got, " + value + "}); }\n";
    }

    /** Answers what the program prints. */
    private static String run(String program, List<Object[]> answers) throws Exception {
        Path folder = Files.createTempDirectory("readme");
        Path source = folder.resolve("ReadmeCalls.java");
        Path compiled = folder.resolve("ReadmeCalls.class");
        PrintStream out = System.out;
        ByteArrayOutputStream printed = new ByteArrayOutputStream();
        try (URLClassLoader loader = new URLClassLoader(new URL[] {folder.toUri().toURL()})) {
            Files.writeString(source, program);
            int failed = ToolProvider.getSystemJavaCompiler().run(null, null, null, "-cp",
                System.getProperty("java.class.path"), "-d", folder.toString(), source.toString());
            if (failed != 0) {
                throw new IllegalStateException("the Java of README.md does not compile");
            }
            System.setOut(new PrintStream(printed, true));
            loader.loadClass("ReadmeCalls").getMethod("run", List.class).invoke(null, answers);
        } finally {
            System.setOut(out);
            Files.deleteIfExists(source);
            Files.deleteIfExists(compiled);
            Files.deleteIfExists(folder);
        }
        return printed.toString();
    }

    private static TreeSet<String> methodsIn(List<String> shown) {
        TreeSet<String> found = new TreeSet<>();
        Matcher call = Pattern.compile("forms\\.(\\w+)\\(").matcher(String.join("\n", shown));
        while (call.find()) {
            found.add(call.group(1));
        }
        return found;
    }

    private static TreeSet<String> methodsOfTheFace() {
        TreeSet<String> found = new TreeSet<>();
        for (var method : NetlistForms.class.getMethods()) {
            if (method.getDeclaringClass() == NetlistForms.class) {
                found.add(method.getName());
            }
        }
        return found;
    }

    private static void testsAreThoseNamed(List<String> lines) throws IOException {
        TreeSet<String> named = new TreeSet<>();
        Matcher test = Pattern.compile("`(\\w+Test)`").matcher(String.join("\n", lines));
        while (test.find()) {
            named.add(test.group(1));
        }
        TreeSet<String> there = new TreeSet<>();
        try (Stream<Path> files = Files.list(TESTS)) {
            files.map(file -> file.getFileName().toString()).filter(file -> file.endsWith("Test.java"))
                .forEach(file -> there.add(file.substring(0, file.length() - ".java".length())));
        }
        Check.same("tests that README.md names", named, there);
    }
}
