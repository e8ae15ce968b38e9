import java.io.IOException;
import java.lang.reflect.InvocationTargetException;
import java.lang.reflect.Method;
import java.lang.reflect.Modifier;
import java.net.URL;
import java.net.URLClassLoader;
import java.nio.charset.StandardCharsets;
import java.nio.file.Files;
import java.nio.file.Path;
import java.util.ArrayList;
import java.util.Comparator;
import java.util.List;
import java.util.Set;
import java.util.TreeSet;
import java.util.regex.Matcher;
import java.util.regex.Pattern;
import java.util.stream.Collectors;
import java.util.stream.Stream;
import javax.tools.JavaCompiler;
import javax.tools.ToolProvider;

/** What README.md says is so: its example, its table of calls, its commands, and the tests that it names. */
public final class ReadmeTest {
    private static final Path PAGE = Path.of(System.getProperty("readme", "README.md"));
    private static final Path TESTS = Path.of("src/test/java");
    private static final Pattern ANSWERED = Pattern.compile("^(\\w[^;]*\\((?:[^\"]|\"[^\"]*\")*\\));\\s*// (-?\\d+|true|false)(?=:|$)");
    private static final Pattern ROW = Pattern.compile("(?m)^\\| `(\\w+)\\(([a-z, ]*)\\)` \\| ([^|]+) \\| ([^|]*)\\|$");
    private static final Pattern REFUSED = Pattern.compile("`(\\w+)\\(([-0-9, ]*)\\)` = (-?\\d+|true|false)");
    private static final int MOST_CALLS = 512;

    private static List<String> blocks(String page, String language) {
        List<String> found = new ArrayList<>();
        Matcher m = Pattern.compile("(?s)```" + language + "\\n(.*?)```").matcher(page);
        while (m.find()) {
            found.add(m.group(1));
        }
        return found;
    }

    private static Set<String> face() {
        Set<String> names = new TreeSet<>();
        for (Method m : NoonOnABarrow.class.getDeclaredMethods()) {
            if (Modifier.isPublic(m.getModifiers())) {
                names.add(m.getName());
            }
        }
        return names;
    }

    /** Each call of the example says what it answered; a line without an answer beside it is told as wrong. */
    private static String withAnswers(String statements) {
        StringBuilder b = new StringBuilder();
        for (String line : statements.split("\n")) {
            Matcher m = ANSWERED.matcher(line);
            boolean beside = line.isBlank() || line.startsWith("//") || line.contains("new NoonOnABarrow()");
            if (m.find()) {
                String call = m.group(1);
                b.append("said.add(\"").append(call.replace("\\", "\\\\").replace("\"", "\\\"")).append(" = \" + (").append(call).append("));\n");
            } else {
                Due.so("it is told beside it what is answered: " + line, beside, true);
                b.append(line).append('\n');
            }
        }
        return b.toString();
    }

    private static List<String> answersBeside(String statements) {
        List<String> due = new ArrayList<>();
        for (String line : statements.split("\n")) {
            Matcher m = ANSWERED.matcher(line);
            if (m.find()) {
                due.add(m.group(1) + " = " + m.group(2));
            }
        }
        return due;
    }

    private static List<String> run(String statements, String helpers, Path built) throws IOException, ReflectiveOperationException {
        Path source = built.resolve("ReadmeExample.java");
        String code = "public final class ReadmeExample {\n" + helpers
                + "public static void run(java.util.List<String> said) {\n" + withAnswers(statements) + "}\n}\n";
        Files.write(source, code.getBytes(StandardCharsets.UTF_8));
        JavaCompiler compiler = ToolProvider.getSystemJavaCompiler();
        Due.so("there is a compiler", compiler != null, true);
        List<String> said = new ArrayList<>();
        if (compiler == null) {
            return said;
        }
        int code0 = compiler.run(null, null, null, "-d", built.toString(), "-cp", System.getProperty("java.class.path"), source.toString());
        Due.is("the example is compiled", code0, 0);
        if (code0 == 0) {
            try (URLClassLoader loader = new URLClassLoader(new URL[] {built.toUri().toURL()}, ReadmeTest.class.getClassLoader())) {
                loader.loadClass("ReadmeExample").getMethod("run", List.class).invoke(null, said);
            }
        }
        return said;
    }

    private static void example(String page, Path built) throws IOException, ReflectiveOperationException {
        StringBuilder statements = new StringBuilder();
        StringBuilder helpers = new StringBuilder();
        for (String block : blocks(page, "java")) {
            (block.startsWith("static ") ? helpers : statements).append(block);
        }
        List<String> due = answersBeside(statements.toString());
        List<String> said = run(statements.toString(), helpers.toString(), built);
        Due.is("calls of the example that were answered", said.size(), due.size());
        for (int i = 0; i < Math.min(said.size(), due.size()); i++) {
            Due.same("an answer of the example", said.get(i), due.get(i));
        }
        Due.so("the example is for one object", due.size() > 0 && due.size() < MOST_CALLS, true);
        for (String name : face()) {
            boolean used = (statements.toString() + helpers).contains("parish." + name + "(");
            Due.so("the example uses " + name, used, true);
        }
    }

    private static Method named(String name) {
        for (Method m : NoonOnABarrow.class.getDeclaredMethods()) {
            if (Modifier.isPublic(m.getModifiers()) && m.getName().equals(name)) {
                return m;
            }
        }
        return null;
    }

    private static int count(String listed) {
        return listed.isBlank() ? 0 : listed.split(",").length;
    }

    private static void table(String page) throws ReflectiveOperationException {
        Set<String> rows = new TreeSet<>();
        Matcher row = ROW.matcher(page);
        while (row.find()) {
            String name = row.group(1);
            Due.so("one row for " + name, rows.add(name), true);
            Method m = named(name);
            Due.so("the class has " + name, m != null, true);
            if (m != null) {
                Due.is("numbers that " + name + " takes", count(row.group(2)), m.getParameterCount());
                refused(m, row.group(4));
            }
        }
        Due.same("the table's calls", rows.toString(), face().toString());
    }

    private static void refused(Method m, String told) throws ReflectiveOperationException {
        if (told.isBlank()) {
            return;
        }
        Matcher call = REFUSED.matcher(told.trim());
        boolean readable = call.matches() && call.group(1).equals(m.getName()) && count(call.group(2)) == m.getParameterCount();
        Due.so("a call of " + m.getName() + " with its answer: " + told, readable, true);
        if (readable) {
            Object[] numbers = new Object[m.getParameterCount()];
            for (int i = 0; i < numbers.length; i++) {
                numbers[i] = Integer.valueOf(call.group(2).split(",")[i].trim());
            }
            Due.same(call.group() + " on a new object", String.valueOf(m.invoke(new NoonOnABarrow(), numbers)), call.group(3));
        }
    }

    /** The commands are run as they stand, but that what they build goes elsewhere; .ci/run, which runs this test, is looked at alone. */
    private static void commands(String page, Path built) throws IOException, InterruptedException {
        int all = 0;
        int single = 0;
        for (String block : blocks(page, "sh")) {
            String command = block.trim();
            if (command.equals(".ci/run")) {
                all++;
                Due.so(command + " can be run", Files.isExecutable(Path.of(command)), true);
            } else {
                single++;
                String elsewhere = command.replaceAll("\\bout\\b", Matcher.quoteReplacement(built.resolve("out").toString()));
                Process p = new ProcessBuilder("sh", "-c", elsewhere).redirectErrorStream(true).start();
                p.getOutputStream().close();
                String said = new String(p.getInputStream().readAllBytes(), StandardCharsets.UTF_8);
                int code = p.waitFor();
                Due.is(command + " exits (" + (code == 0 ? "" : said) + ")", code, 0);
                Due.so(command + " tells what it ran", said.isBlank(), false);
            }
        }
        Due.is("ways to run all tests", all, 1);
        Due.so("ways to run some of them", single > 0, true);
    }

    private static void tests(String page) throws IOException {
        Set<String> there = new TreeSet<>();
        try (Stream<Path> files = Files.list(TESTS)) {
            for (Path file : files.collect(Collectors.toList())) {
                there.add(file.getFileName().toString().replace(".java", ""));
            }
        }
        Set<String> named = new TreeSet<>();
        Matcher m = Pattern.compile("`(\\w+Test|Twins|State|Model|Due)\\b").matcher(page);
        while (m.find()) {
            named.add(m.group(1));
        }
        Due.same("the tests that the page names", named.toString(), there.toString());
    }

    private static void clear(Path directory) throws IOException {
        try (Stream<Path> files = Files.walk(directory)) {
            for (Path file : files.sorted(Comparator.reverseOrder()).collect(Collectors.toList())) {
                Files.delete(file);
            }
        }
    }

    public static void main(String[] args) throws IOException, ReflectiveOperationException, InterruptedException {
        String page = new String(Files.readAllBytes(PAGE), StandardCharsets.UTF_8);
        Path built = Files.createTempDirectory("readme");
        try {
            example(page, built);
            table(page);
            commands(page, built);
            tests(page);
        } catch (InvocationTargetException thrown) {
            Due.same("a call throws", String.valueOf(thrown.getCause()), "nothing");
        } finally {
            clear(built);
        }
        Due.close();
    }
}
