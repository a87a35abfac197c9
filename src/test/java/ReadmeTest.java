import java.io.IOException;
import java.lang.reflect.Field;
import java.lang.reflect.Method;
import java.lang.reflect.Modifier;
import java.net.URL;
import java.net.URLClassLoader;
import java.nio.file.Files;
import java.nio.file.Path;
import java.util.ArrayList;
import java.util.Arrays;
import java.util.List;
import java.util.TreeMap;
import java.util.TreeSet;
import java.util.function.Supplier;
import java.util.regex.Matcher;
import java.util.regex.Pattern;
import java.util.stream.Stream;
import javax.tools.ToolProvider;

/** What README.md says is tried as it is written there: its examples, its lines for the shell, its tables. */
public final class ReadmeTest {
    private static final Path README = Path.of("README.md"), TESTS = Path.of("src/test/java");
    private static final String ALL_TESTS = ".ci/run";
    /** A call of the examples with the answer behind it: a number, or the name of a constant. */
    private static final Pattern TOLD = Pattern.compile("(x\\.\\w+\\(.*\\));\\s*// (-?\\d+|[A-Z]+)(:.*)?");

    private final List<String> lines = Files.readAllLines(README);

    private ReadmeTest() throws IOException {
    }

    public static void main(String[] args) throws ReflectiveOperationException, IOException, InterruptedException {
        ReadmeTest test = new ReadmeTest();
        test.examplesAnswerAsTold();
        test.callsAreTheFace();
        test.refusalsAreTheConstants();
        test.testsAreThere();
        test.linesForTheShellRun();
        Due.end();
    }

    /** All lines of the blocks of one language, one behind the other. */
    private List<String> blocks(String language) {
        List<String> found = new ArrayList<>();
        boolean within = false;
        for (String line : lines) {
            if (line.startsWith("```")) {
                within = line.equals("```" + language);
            } else if (within) {
                found.add(line);
            }
        }
        Due.holds("there is something in " + language, !found.isEmpty());
        return found;
    }

    /** The first cells of the rows of a table that begins with these. */
    private List<String[]> table(String head) {
        List<String[]> rows = new ArrayList<>();
        for (int i = lines.indexOf(head) + 2; i > 1 && i < lines.size() && lines.get(i).startsWith("| "); i++) {
            rows.add(lines.get(i).substring(2).split(" \\| "));
        }
        Due.holds("there is a table " + head, !rows.isEmpty());
        return rows;
    }

    // ---- examples

    private void examplesAnswerAsTold() throws ReflectiveOperationException, IOException {
        StringBuilder source = new StringBuilder("import java.util.*;\npublic final class Tried"
                + " implements java.util.function.Supplier<List<Integer>> {\npublic List<Integer> get() {\n"
                + "List<Integer> got = new ArrayList<>();\n");
        List<Matcher> told = new ArrayList<>();
        for (String line : blocks("java")) {
            Matcher m = TOLD.matcher(line);
            boolean tells = m.matches();
            Due.holds("the answer is told as it can be tried: " + line, tells || !line.contains("//"));
            source.append(tells ? "got.add(" + m.group(1) + ");" : line).append('\n');
            if (tells) {
                told.add(m);
            }
        }
        List<?> got = answersOf(source.append("return got;\n}\n}\n").toString());
        Due.is("answers of the examples", got.size(), told.size());
        for (int i = 0; i < got.size(); i++) {
            Due.is("README: " + told.get(i).group(1), (Integer) got.get(i), number(told.get(i).group(2)));
        }
    }

    private static int number(String told) throws ReflectiveOperationException {
        return Character.isLetter(told.charAt(0)) ? RailOfHeads.class.getField(told).getInt(null) : Integer.parseInt(told);
    }

    private static List<?> answersOf(String source) throws ReflectiveOperationException, IOException {
        Path dir = Files.createTempDirectory("readme");
        Path file = Files.writeString(dir.resolve("Tried.java"), source);
        int exit = ToolProvider.getSystemJavaCompiler().run(null, null, null,
                "-cp", System.getProperty("java.class.path"), "-d", dir.toString(), file.toString());
        Due.is("the examples compile", exit, 0);
        if (exit != 0) {
            return List.of();
        }
        try (URLClassLoader loader = new URLClassLoader(new URL[] {dir.toUri().toURL()}, ReadmeTest.class.getClassLoader())) {
            return (List<?>) ((Supplier<?>) loader.loadClass("Tried").getConstructor().newInstance()).get();
        } finally {
            for (String name : List.of("Tried.java", "Tried.class", "")) {
                Files.deleteIfExists(dir.resolve(name));
            }
        }
    }

    // ---- tables

    private void callsAreTheFace() {
        TreeMap<String, Integer> told = new TreeMap<>();
        for (String[] row : table("| call | what it answers |")) {
            String call = row[0].replace("`", "");
            String with = call.substring(call.indexOf('(') + 1, call.length() - 1);
            told.put(call.substring(0, call.indexOf('(')), with.isEmpty() ? 0 : with.split(", ").length);
        }
        TreeMap<String, Integer> due = new TreeMap<>();
        for (Method m : RailOfHeads.class.getDeclaredMethods()) {
            if (Modifier.isPublic(m.getModifiers())) {
                due.put(m.getName(), m.getParameterCount());
            }
        }
        Due.holds("calls " + told + ", due are " + due, told.equals(due));
    }

    private void refusalsAreTheConstants() throws ReflectiveOperationException {
        int named = 0;
        for (String[] row : table("| answer | number | when |")) {
            if (row[0].startsWith("`")) {
                named++;
                Due.is("README: " + row[0], Integer.parseInt(row[1]), number(row[0].replace("`", "")));
            } else if (row[0].startsWith("finding ")) {
                Due.is("README: " + row[0], Integer.parseInt(row[1]), -1000010 - Integer.parseInt(row[0].substring(8)));
            }
        }
        Due.is("constants", named,
                Arrays.stream(RailOfHeads.class.getDeclaredFields()).map(Field::getModifiers).filter(Modifier::isPublic).count());
    }

    private void testsAreThere() throws IOException {
        TreeSet<String> told = new TreeSet<>();
        for (String[] row : table("| test | what it holds |")) {
            told.add(row[0].replace("`", "") + ".java");
        }
        TreeSet<String> due = new TreeSet<>();
        try (Stream<Path> files = Files.list(TESTS)) {
            files.map(f -> f.getFileName().toString()).filter(f -> f.endsWith("Test.java")).forEach(due::add);
        }
        Due.holds("tests " + told + ", due are " + due, told.equals(due));
    }

    // ---- the shell

    /** All but the line that runs all tests, as this test is one of them. */
    private void linesForTheShellRun() throws IOException, InterruptedException {
        List<String> shell = blocks("sh");
        Due.holds("README tells how to run all tests", shell.contains(ALL_TESTS) && Files.isExecutable(Path.of(ALL_TESTS)));
        for (String line : shell) {
            Due.holds(line + " would not end", !line.contains("ReadmeTest"));
            if (!line.equals(ALL_TESTS) && !line.contains("ReadmeTest")) {
                Process p = new ProcessBuilder("sh", "-c", line).redirectErrorStream(true).start();
                String said = new String(p.getInputStream().readAllBytes());
                Due.is(line + " said " + said + "and", p.waitFor(), 0);
            }
        }
    }
}
