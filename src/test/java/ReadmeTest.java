import java.io.IOException;
import java.net.URL;
import java.net.URLClassLoader;
import java.nio.file.Files;
import java.nio.file.Path;
import java.util.ArrayList;
import java.util.List;
import java.util.NoSuchElementException;
import java.util.Set;
import java.util.TreeSet;
import java.util.concurrent.Callable;
import java.util.function.BiConsumer;
import java.util.regex.Matcher;
import java.util.regex.Pattern;
import java.util.stream.Stream;
import javax.tools.ToolProvider;

/**
 * What README.md shows is so: each of its Java blocks is compiled as it stands, and each call in them
 * answers what stands behind it. A block of statements is a run; one that begins with static is a helper.
 */
public final class ReadmeTest {
    private static final Path README = Path.of("README.md");
    private static final Path TESTS = Path.of("src/test/java");
    private static final Path CI = Path.of(".ci/run");
    private static final String MAKING = "StripeShelf x = new StripeShelf();";
    private static final Pattern BLOCK = Pattern.compile("^```(\\w+)\n(.*?)^```$", Pattern.MULTILINE | Pattern.DOTALL);
    /** A call, then '// answer', then words that say why. */
    private static final Pattern SHOWN = Pattern.compile("(\\S.*\\));\\s*// (throws )?(-?\\w+)\\b.*");
    private static final Pattern CALLED = Pattern.compile("x\\.(\\w+)\\(");
    private static final Pattern TEST_NAME = Pattern.compile("`(\\w+Test)`");
    private static final int MOST_CALLS = 512;

    private final Check check = new Check();

    /** What became of the calls of one page. */
    private static final class Page {
        final List<String> wrong = new ArrayList<>();
        final Set<String> called = new TreeSet<>();
        int answers = 0;
    }

    // ---- from the page to a class

    private static String code(String markdown, Page page) {
        StringBuilder helpers = new StringBuilder();
        StringBuilder runs = new StringBuilder();
        int blocks = 0;
        for (Matcher m = BLOCK.matcher(markdown); m.find();) {
            if (m.group(1).equals("java") && m.group(2).startsWith("static ")) {
                helpers.append(m.group(2));
            } else if (m.group(1).equals("java")) {
                helpers.append("static void block").append(blocks).append(HEAD).append(run(m.group(2), page)).append("}\n");
                runs.append("block").append(blocks).append("(shown);\n");
                blocks++;
            }
        }
        return "public class Shown {\n" + helpers + "public static void all" + HEAD + runs + "}\n}\n";
    }

    private static final String HEAD =
        "(java.util.function.BiConsumer<String, java.util.concurrent.Callable<Object>> shown) {\n";

    private static String run(String block, Page page) {
        StringBuilder statements = new StringBuilder();
        String[] lines = block.split("\n");
        if (!lines[0].equals(MAKING)) {
            page.wrong.add("a run that does not begin with a new object: " + lines[0]);
        }
        if (lines.length > MOST_CALLS / 2) {
            page.wrong.add("a run that may have more calls than an object has: " + lines.length);
        }
        for (String line : lines) {
            Matcher m = SHOWN.matcher(line);
            if (line.equals(MAKING)) {
                statements.append(line).append('\n');
            } else if (m.matches()) {
                statements.append("shown.accept(").append(quoted(line)).append(", () -> ").append(m.group(1)).append(");\n");
                noteCalled(m.group(1), page);
            } else {
                page.wrong.add("a line without an answer: " + line);
            }
        }
        return statements.toString();
    }

    private static void noteCalled(String call, Page page) {
        for (Matcher m = CALLED.matcher(call); m.find();) {
            page.called.add(m.group(1));
        }
    }

    private static String quoted(String line) {
        return '"' + line.replace("\\", "\\\\").replace("\"", "\\\"") + '"';
    }

    // ---- running it

    private static Page play(String markdown) throws Exception {
        Page page = new Page();
        Path work = Files.createTempDirectory("readme");
        Path source = work.resolve("Shown.java");
        try {
            Files.writeString(source, code(markdown, page));
            String classPath = System.getProperty("java.class.path");
            int failed = ToolProvider.getSystemJavaCompiler().run(null, null, null, "-proc:none", "-cp", classPath, "-d", work.toString(), source.toString());
            if (failed != 0) {
                page.wrong.add("what is shown does not compile");
            } else {
                runAll(work, page);
            }
        } finally {
            remove(work);
        }
        return page;
    }

    private static void runAll(Path work, Page page) throws Exception {
        try (URLClassLoader loader = new URLClassLoader(new URL[] {work.toUri().toURL()}, ReadmeTest.class.getClassLoader())) {
            BiConsumer<String, Callable<Object>> shown = (line, call) -> ask(line, call, page);
            loader.loadClass("Shown").getMethod("all", BiConsumer.class).invoke(null, shown);
        }
    }

    private static void ask(String line, Callable<Object> call, Page page) {
        page.answers++;
        Matcher m = SHOWN.matcher(line);
        String due = m.matches() ? (m.group(2) == null ? "" : m.group(2)) + number(m.group(3)) : "an answer";
        String got;
        try {
            got = String.valueOf(call.call());
        } catch (NoSuchElementException e) {
            got = "throws NoSuchElementException";
        } catch (Exception e) {
            got = "throws " + e;
        }
        if (!got.equals(due)) {
            page.wrong.add(line.trim() + " answered " + got);
        }
    }

    private static String number(String word) {
        switch (word) {
            case "NONE": return Integer.toString(StripeShelf.NONE);
            case "HIDDEN": return Integer.toString(StripeShelf.HIDDEN);
            default: return word;
        }
    }

    private static void remove(Path work) throws IOException {
        try (Stream<Path> files = Files.list(work)) {
            for (Path file : (Iterable<Path>) files::iterator) {
                Files.delete(file);
            }
        }
        Files.delete(work);
    }

    // ---- what is tested

    private void calls() throws Exception {
        Page page = play(Files.readString(README));
        page.wrong.forEach(System.out::println);
        check.due("README.md: what is shown is not so", page.wrong.size(), 0);
        check.due("README.md: calls are shown and were asked", page.answers > page.called.size(), true);
        Set<String> face = new TreeSet<>();
        for (java.lang.reflect.Method m : StripeShelf.class.getMethods()) {
            if (m.getDeclaringClass() == StripeShelf.class) {
                face.add(m.getName());
            }
        }
        check.due("README.md shows every call of the face: " + page.called + " / " + face, page.called.equals(face), true);
    }

    /** A test that finds nothing must not be one that looks at nothing. */
    private void wrongPages() throws Exception {
        check.due("a right answer", wrongIn("x.undo(); // NONE: none\nx.end(0); // true\nx.most(0); // HIDDEN\n"), 0);
        check.due("a wrong number", wrongIn("x.undo(); // 0: none\n"), 1);
        check.due("a wrong word", wrongIn("x.end(1); // true\nx.undo(); // HIDDEN\n"), 2);
        check.due("no exception where one is shown", wrongIn("x.undo(); // throws NoSuchElementException\n"), 1);
        check.due("an exception that is not shown", wrongIn("x.read(0); // NONE\n"), 1);
        check.due("another exception", wrongIn("x.read(0); // throws IllegalStateException\n"), 1);
        check.due("a line without an answer", wrongIn("x.undo();\n"), 1);
    }

    private static int wrongIn(String lines) throws Exception {
        return play("```java\n" + MAKING + "\n" + lines + "```\n").wrong.size();
    }

    private void howToTest() throws IOException {
        String text = Files.readString(README);
        Set<String> named = new TreeSet<>();
        for (Matcher m = TEST_NAME.matcher(text); m.find();) {
            named.add(m.group(1));
        }
        Set<String> there = new TreeSet<>();
        try (Stream<Path> files = Files.list(TESTS)) {
            files.map(f -> f.getFileName().toString()).filter(f -> f.endsWith("Test.java")).forEach(f -> there.add(f.replace(".java", "")));
        }
        check.due("README.md names the tests that there are: " + named + " / " + there, named.equals(there), true);
        check.due("README.md tells how to run them", text.contains("\nbash .ci/run\n"), true);
        check.due(".ci/run can be run", Files.isExecutable(CI), true);
    }

    public static void main(String[] args) throws Exception {
        ReadmeTest test = new ReadmeTest();
        test.calls();
        test.wrongPages();
        test.howToTest();
        test.check.finish("ReadmeTest");
    }
}
