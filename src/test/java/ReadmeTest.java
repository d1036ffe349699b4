import java.io.IOException;
import java.lang.reflect.Method;
import java.lang.reflect.Modifier;
import java.net.URL;
import java.net.URLClassLoader;
import java.nio.file.Files;
import java.nio.file.Path;
import java.util.ArrayList;
import java.util.Comparator;
import java.util.List;
import java.util.Set;
import java.util.TreeSet;
import java.util.regex.Matcher;
import java.util.regex.Pattern;
import java.util.stream.Stream;
import javax.tools.JavaCompiler;
import javax.tools.ToolProvider;

/** What README.md shows: the calls answer as it says, and the tests that it names are those there are. */
public final class ReadmeTest {
    private static final Due due = new Due("ReadmeTest");
    private static final Path README = Path.of("README.md");
    private static final Path TESTS = Path.of("src/test/java");
    private static final Path RUN = Path.of(".ci/run");

    private static final Pattern BLOCK = Pattern.compile("^```java\\n(.*?)^```$", Pattern.DOTALL | Pattern.MULTILINE);
    private static final Pattern NEW = Pattern.compile("SequencedBatches x = new SequencedBatches\\(\\d+\\);( *//.*)?");
    private static final Pattern ALL_ARRIVE = Pattern.compile("while \\(x\\.deliver\\(0\\)\\) \\{ \\}( *//.*)?");
    private static final Pattern CALL = Pattern.compile("(int \\w+ = )?(x\\.(\\w+)\\([^()]*\\)); *// (-?\\d+|true|false|NONE)(: .*)?");

    private final StringBuilder program = new StringBuilder();
    private final List<String> calls = new ArrayList<>();
    private final List<String> told = new ArrayList<>();
    private final Set<String> shown = new TreeSet<>();

    public static void main(String[] args) throws IOException, ReflectiveOperationException {
        String readme = Files.readString(README);
        ReadmeTest test = new ReadmeTest();
        test.takeUp(readme);
        test.everyCallOfTheFaceIsShown();
        test.callsAnswerAsTold();
        namesTheTestsThatThereAre(readme);
        due.is("README.md names .ci/run, which can be run", readme.contains(".ci/run") && Files.isExecutable(RUN), true);
        due.end();
    }

    /** Makes of the lines that README.md shows a program that gathers the answers. */
    private void takeUp(String readme) {
        program.append("public final class ReadmeUse {\n");
        program.append("public static void use(java.util.List<Object> answers) {\n");
        Matcher block = BLOCK.matcher(readme);
        while (block.find()) {
            program.append("{\n");
            block.group(1).lines().forEach(this::takeUpLine);
            program.append("}\n");
        }
        program.append("}\n}\n");
    }

    private void takeUpLine(String line) {
        Matcher call = CALL.matcher(line);
        if (call.matches()) {
            calls.add(call.group(2));
            told.add(call.group(4).equals("NONE") ? "-1" : call.group(4));
            shown.add(call.group(3));
            program.append(gathering(call)).append('\n');
        } else {
            boolean isKnown = NEW.matcher(line).matches() || ALL_ARRIVE.matcher(line).matches();
            due.is("README.md tells the answer of: " + line, isKnown, true);
            program.append(line).append('\n');
        }
    }

    private static String gathering(Matcher call) {
        if (call.group(1) == null) {
            return "answers.add(" + call.group(2) + ");";
        }
        String name = call.group(1).split(" ")[1];
        return call.group(1) + call.group(2) + "; answers.add(" + name + ");";
    }

    private void everyCallOfTheFaceIsShown() {
        for (Method method : SequencedBatches.class.getDeclaredMethods()) {
            if (Modifier.isPublic(method.getModifiers())) {
                due.is("README.md shows " + method.getName(), shown.contains(method.getName()), true);
            }
        }
    }

    private void callsAnswerAsTold() throws IOException, ReflectiveOperationException {
        List<Object> answers = new ArrayList<>();
        Path folder = Files.createTempDirectory("readme");
        try {
            boolean compiled = compile(folder);
            due.is("what README.md shows compiles", compiled, true);
            if (compiled) {
                run(folder, answers);
            }
        } finally {
            remove(folder);
        }
        due.is("answers", answers.size(), told.size());
        for (int i = 0; i < answers.size(); i++) {
            due.same("README.md: " + calls.get(i), List.of(answers.get(i).toString()), List.of(told.get(i)));
        }
    }

    private boolean compile(Path folder) throws IOException {
        Path source = folder.resolve("ReadmeUse.java");
        Files.writeString(source, program);
        JavaCompiler compiler = ToolProvider.getSystemJavaCompiler();
        String classes = System.getProperty("java.class.path");
        return compiler != null && compiler.run(null, null, null,
                "--release", "17", "-cp", classes, "-d", folder.toString(), source.toString()) == 0;
    }

    private static void run(Path folder, List<Object> answers) throws IOException, ReflectiveOperationException {
        URL[] places = {folder.toUri().toURL()};
        try (URLClassLoader loader = new URLClassLoader(places, ReadmeTest.class.getClassLoader())) {
            loader.loadClass("ReadmeUse").getMethod("use", List.class).invoke(null, answers);
        }
    }

    private static void remove(Path folder) throws IOException {
        try (Stream<Path> all = Files.walk(folder)) {
            for (Path each : all.sorted(Comparator.reverseOrder()).toList()) {
                Files.delete(each);
            }
        }
    }

    private static void namesTheTestsThatThereAre(String readme) throws IOException {
        Set<String> named = new TreeSet<>();
        Matcher row = Pattern.compile("^\\| (\\w+Test) \\|", Pattern.MULTILINE).matcher(readme);
        while (row.find()) {
            named.add(row.group(1));
        }
        Set<String> there = new TreeSet<>();
        try (Stream<Path> all = Files.list(TESTS)) {
            all.map(each -> each.getFileName().toString())
                    .filter(name -> name.endsWith("Test.java"))
                    .forEach(name -> there.add(name.replace(".java", "")));
        }
        due.same("tests that README.md names", List.copyOf(named), List.copyOf(there));
    }
}
