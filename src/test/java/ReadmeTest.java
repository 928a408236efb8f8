import java.io.IOException;
import java.lang.reflect.Method;
import java.lang.reflect.Modifier;
import java.net.URL;
import java.net.URLClassLoader;
import java.nio.file.Files;
import java.nio.file.Path;
import java.util.List;
import java.util.Set;
import java.util.TreeSet;
import java.util.regex.Matcher;
import java.util.regex.Pattern;
import java.util.stream.Stream;
import javax.tools.JavaCompiler;
import javax.tools.ToolProvider;

/** What README.md shows is true: its calls answer as it says, it shows all of them, and it names all tests. */
public final class ReadmeTest {
    private static final Check C = new Check();
    private static final Path TESTS = Path.of("src/test/java");
    private static final String MAKING = "EasyToHard x = new EasyToHard();";
    /** A call, and behind it the answer, up to a colon or the line's end. */
    private static final Pattern CALL = Pattern.compile("(x\\.(\\w+)\\(.*\\)); +// ([^:]+)(: .*)?");
    private static final Pattern FACE_CALL = Pattern.compile("(?m)^ +public (?:int|long) (\\w+)\\((.*)\\);$");

    private final String readme;
    private final Set<String> shown = new TreeSet<>();
    private final StringBuilder program = new StringBuilder();

    private ReadmeTest(String readme) {
        this.readme = readme;
    }

    public static void main(String[] args) throws IOException, ReflectiveOperationException {
        ReadmeTest test = new ReadmeTest(Files.readString(Path.of("README.md")));
        test.takeCalls();
        test.runCalls(args.length > 0 ? args[0] : "src/main/java/EasyToHard.java");
        test.allCallsAreShown();
        test.allCallsAreInTheTable(Files.readString(Path.of("../shared/DOC.md")));
        test.constantsAreTrue();
        test.allTestsAreNamed();
        test.theCommandIsThere();
        C.finish();
    }

    /** All lines of Java that README.md shows, as one method that tells line, answer, answer that is due. */
    private void takeCalls() {
        program.append("public final class Mine {\n  public static long[][] run() {\n")
                .append("    java.util.List<long[]> told = new java.util.ArrayList<>();\n");
        List<String> lines = readme.lines().toList();
        boolean isJava = false;
        for (int i = 0; i < lines.size(); i++) {
            String line = lines.get(i);
            if (line.startsWith("```")) {
                isJava = line.equals("```java");
            } else if (isJava) {
                takeLine(i + 1, line);
            }
        }
        program.append("    return told.toArray(new long[0][]);\n  }\n}\n");
    }

    private void takeLine(int number, String line) {
        Matcher call = CALL.matcher(line);
        if (line.equals(MAKING)) {
            program.append("    ").append(line).append('\n');
        } else if (call.matches()) {
            shown.add(call.group(2));
            program.append("    told.add(new long[] {").append(number).append(", ").append(call.group(1)).append(", ")
                    .append(call.group(3)).append("});\n");
        } else {
            C.holds("README.md, line " + number + ", shows a call with its answer: " + line, false);
        }
    }

    /** Compiled as README.md says: the class together with the file that uses it. */
    private void runCalls(String source) throws IOException, ReflectiveOperationException {
        try (Scratch out = new Scratch()) {
            String mine = out.write("Mine.java", program.toString()).toString();
            JavaCompiler javac = ToolProvider.getSystemJavaCompiler();
            int code = javac.run(null, System.out, System.out, "-d", out.root.toString(), source, mine);
            C.due("compiling what README.md shows", code, 0);
            if (code == 0) {
                compareAnswers(out.root.toUri().toURL());
            }
        }
    }

    private static void compareAnswers(URL classes) throws IOException, ReflectiveOperationException {
        try (URLClassLoader loader = new URLClassLoader(new URL[] {classes}, ClassLoader.getPlatformClassLoader())) {
            long[][] told = (long[][]) loader.loadClass("Mine").getMethod("run").invoke(null);
            C.holds("README.md shows calls", told.length > 0);
            for (long[] one : told) {
                C.due("the call in line " + one[0] + " of README.md", one[1], one[2]);
            }
        }
    }

    private void allCallsAreShown() {
        for (Method m : EasyToHard.class.getDeclaredMethods()) {
            if (Modifier.isPublic(m.getModifiers())) {
                C.holds("README.md shows the use of " + m.getName(), shown.contains(m.getName()));
            }
        }
    }

    private void allCallsAreInTheTable(String doc) {
        Matcher face = FACE_CALL.matcher(doc);
        int calls = 0;
        while (face.find()) {
            calls++;
            String names = face.group(2).replaceAll("\\bint ", "");
            String row = "\n| `" + face.group(1) + "(" + names + ")` | ";
            C.holds("README.md has a row" + row.replace('\n', ' '), readme.contains(row));
        }
        C.due("rows of calls", readme.lines().filter(line -> line.startsWith("| `")).count(), calls);
        C.due("calls of the document's face", calls, 35);
    }

    private void constantsAreTrue() {
        int[] values = {EasyToHard.NONE, EasyToHard.BAD, EasyToHard.NOT, EasyToHard.FULL};
        String[] names = {"NONE", "BAD", "NOT", "FULL"};
        for (int i = 0; i < names.length; i++) {
            String words = "`" + names[i] + "` (" + values[i] + ")";
            C.holds("README.md tells " + words, readme.contains(words));
        }
    }

    private void allTestsAreNamed() throws IOException {
        Set<String> named = new TreeSet<>();
        Matcher row = Pattern.compile("(?m)^\\| (\\w+Test(?:, \\w+Test)*) \\| ").matcher(readme);
        while (row.find()) {
            named.addAll(List.of(row.group(1).split(", ")));
        }
        Set<String> there = new TreeSet<>();
        try (Stream<Path> files = Files.list(TESTS)) {
            files.map(file -> file.getFileName().toString()).filter(name -> name.endsWith("Test.java"))
                    .forEach(name -> there.add(name.replace(".java", "")));
        }
        C.holds("README.md names " + named + ", there are " + there, named.equals(there));
        everyMainIsATest();
    }

    /** The command runs what is named ..Test: a main method in another file would never be run. */
    private static void everyMainIsATest() throws IOException {
        try (Stream<Path> files = Files.walk(Path.of("src"))) {
            for (Path file : files.filter(f -> f.toString().endsWith(".java")).toList()) {
                boolean isTest = file.getParent().equals(TESTS) && file.toString().endsWith("Test.java");
                boolean hasMain = Files.readString(file).contains("public static void main(String[] ");
                C.holds(file + " has a main method if, and only if, the command runs it", isTest == hasMain);
            }
        }
    }

    private void theCommandIsThere() {
        C.holds("README.md names the command .ci/run", readme.contains("\n## Tests\n\n    .ci/run\n"));
        C.holds(".ci/run can be run", Files.isExecutable(Path.of(".ci/run")));
    }
}
