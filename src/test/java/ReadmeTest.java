import java.io.IOException;
import java.lang.reflect.Method;
import java.lang.reflect.Modifier;
import java.net.URL;
import java.net.URLClassLoader;
import java.nio.file.Files;
import java.nio.file.Path;
import java.util.ArrayList;
import java.util.List;
import java.util.Set;
import java.util.TreeSet;
import java.util.regex.Matcher;
import java.util.regex.Pattern;
import java.util.stream.Stream;

/**
 * The calls that README.md shows compile against the class and answer as it says. A block of Java there is a
 * helper (it begins with "static") or a run on a new object, each line of it "call;  // answer: words".
 */
public final class ReadmeTest {
    private static final String FENCE = "```";
    private static final String NEW_OBJECT = "CutMatch match = new CutMatch();";
    private static final Pattern SHOWN = Pattern.compile("(\\S.*\\));\\s+// (throws \\w+|-?\\w+)(: .+)?");
    private static final Pattern CALL = Pattern.compile("match\\.(\\w+)\\(.*");
    private static final Pattern TOLD = Pattern.compile("tell\\(match, \".*\"\\)");
    private static final int PROMISED_CALLS = 512;

    private static int wrong = 0;

    private final StringBuilder source = new StringBuilder();
    private final StringBuilder runs = new StringBuilder();
    private final Set<String> shown = new TreeSet<>();
    private int blocks = 0;
    private int lines = 0;

    private static void check(boolean holds, String what) {
        if (!holds) {
            wrong++;
            System.out.println("README.md: " + what);
        }
    }

    /** Called by the source that is made of README.md. */
    public static void due(int line, String call, String got, String want) {
        check(got.equals(want), "line " + line + ": " + call + " answered " + got + ", README.md says " + want);
    }

    private void addRun(List<String> block, int from) {
        blocks++;
        runs.append("        run").append(blocks).append("();\n");
        source.append("    private static void run").append(blocks).append("() {\n        ");
        check(block.get(0).equals(NEW_OBJECT), "line " + from + ": a run begins with a new object");
        source.append(NEW_OBJECT).append('\n');
        check(block.size() < PROMISED_CALLS / 2, "line " + from + ": a run within the calls that are promised");
        for (int k = 1; k < block.size(); k++) {
            addLine(block.get(k), from + k);
        }
        source.append("    }\n\n");
    }

    private void addLine(String text, int line) {
        Matcher parts = SHOWN.matcher(text);
        if (!parts.matches()) {
            check(false, "line " + line + " shows no answer: " + text);
            return;
        }
        String call = parts.group(1);
        Matcher name = CALL.matcher(call);
        if (name.matches()) {
            shown.add(name.group(1));
        } else {
            check(TOLD.matcher(call).matches(), "line " + line + " shows no call of the class: " + text);
        }
        String want = parts.group(2).equals("NONE") ? "-1" : parts.group(2);
        String got = "got" + line;
        lines++;
        source.append("        String ").append(got).append(";\n")
            .append("        try {\n            ").append(got).append(" = String.valueOf(").append(call).append(");\n")
            .append("        } catch (RuntimeException e) {\n            ").append(got)
            .append(" = \"throws \" + e.getClass().getSimpleName();\n        }\n")
            .append("        ReadmeTest.due(").append(line).append(", \"")
            .append(call.replace("\\", "\\\\").replace("\"", "\\\"")).append("\", ").append(got)
            .append(", \"").append(want).append("\");\n");
    }

    private void addBlock(List<String> block, int from) {
        if (block.isEmpty()) {
            check(false, "line " + from + ": an empty block");
        } else if (block.get(0).startsWith("static ")) {
            source.append("    ").append(String.join("\n    ", block)).append("\n\n");
        } else {
            addRun(block, from);
        }
    }

    private void read(List<String> page) {
        source.append("final class ReadmeShown {\n");
        List<String> block = null;
        int from = 0;
        for (int k = 0; k < page.size(); k++) {
            String text = page.get(k);
            if (block == null && text.equals(FENCE + "java")) {
                block = new ArrayList<>();
                from = k + 2;
            } else if (block != null && text.startsWith(FENCE)) {
                addBlock(block, from);
                block = null;
            } else if (block != null) {
                block.add(text);
            }
        }
        check(block == null, "a block without an end");
        source.append("    public static void main(String[] args) {\n").append(runs).append("    }\n}\n");
    }

    private void runShown() throws Exception {
        Path work = Files.createTempDirectory("readme");
        Path file = work.resolve("ReadmeShown.java");
        Files.writeString(file, source);
        int failed = new ProcessBuilder("javac", "-Xlint:all", "-Werror", "-encoding", "UTF-8",
            "-cp", System.getProperty("java.class.path"), "-d", work.toString(), file.toString())
            .inheritIO().start().waitFor();
        check(failed == 0, "what it shows does not compile");
        if (failed == 0) {
            URL[] places = {work.toUri().toURL()};
            try (URLClassLoader loader = new URLClassLoader(places, ReadmeTest.class.getClassLoader())) {
                Method main = loader.loadClass("ReadmeShown").getDeclaredMethod("main", String[].class);
                main.setAccessible(true);
                main.invoke(null, (Object) new String[0]);
            }
        }
        remove(work);
    }

    private static void remove(Path work) throws IOException {
        List<Path> made;
        try (Stream<Path> all = Files.list(work)) {
            made = all.toList();
        }
        for (Path one : made) {
            Files.delete(one);
        }
        Files.delete(work);
    }

    private void checkNoneMissing() {
        for (Method method : CutMatch.class.getDeclaredMethods()) {
            boolean open = Modifier.isPublic(method.getModifiers());
            check(!open || shown.contains(method.getName()), method.getName() + " is not shown");
        }
    }

    /** How the tests are run: the script is there, and the page tells every file of theirs. */
    private static void checkTests(String page) throws IOException {
        check(page.contains("\n" + FENCE + "sh\n.ci/run\n" + FENCE), "how the tests are run");
        check(Files.isExecutable(Path.of(".ci/run")), ".ci/run can be run");
        try (Stream<Path> all = Files.list(Path.of("src/test/java"))) {
            for (Path file : all.toList()) {
                String name = file.getFileName().toString().replace(".java", "");
                check(page.contains("`" + name + "`"), name + " is not named");
            }
        }
    }

    public static void main(String[] args) throws Exception {
        Path path = Path.of("README.md");
        ReadmeTest test = new ReadmeTest();
        test.read(Files.readAllLines(path));
        test.runShown();
        test.checkNoneMissing();
        checkTests(Files.readString(path));
        check(test.lines > 0, "it shows no call");
        System.out.println(test.lines + " lines of " + test.blocks + " runs shown, " + wrong + " not as due");
        if (wrong != 0) {
            System.exit(1);
        }
    }
}
