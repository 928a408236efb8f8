import java.io.IOException;
import java.nio.file.Files;
import java.nio.file.Path;

/** .ci/run, tried on small projects: it runs every test, and fails if one fails. */
public final class RunnerTest {
    private static final Check C = new Check();
    private static final String OWN = "main/src/test/java/", SHARED = "shared/tests/";

    private final Scratch room;
    private String said = "";

    private RunnerTest(Scratch room) {
        this.room = room;
    }

    public static void main(String[] args) throws IOException, InterruptedException {
        try (Scratch room = new Scratch()) {
            new RunnerTest(room).tryAll();
        }
        C.finish();
    }

    private void tryAll() throws IOException, InterruptedException {
        prepare();
        C.due("tests that pass", run(), 0);
        C.holds("two tests of the project ran: " + said, said.contains("OneTest ran") && said.contains("TwoTest ran"));
        C.holds("two shared tests ran: " + said, said.contains("First ran") && said.contains("Deeper ran"));
        C.holds("four passed: " + said, said.contains("4 passed, 0 failed"));
        failsWith("a failing test of the project", OWN, "OneTest", "System.exit(1);");
        failsWith("a test of the project that throws", OWN, "TwoTest", "throw new IllegalStateException();");
        failsWith("a test of the project that does not compile", OWN, "OneTest", "nothing();");
        failsWith("a failing shared test", SHARED, "First", "System.exit(1);");
        failsWith("a failing shared test further down", SHARED + "more/", "Deeper", "System.exit(1);");
        failsWith("a shared test that does not compile", SHARED, "First", "nothing();");
        failsWith("a class that a shared test is not made for", SHARED, "First", "new EasyToHard().nothing();");
        prepare();
        room.remove("shared");
        C.due("no shared tests", run(), 1);
        prepare();
        room.remove(OWN);
        C.due("no tests of the project", run(), 1);
    }

    private void failsWith(String what, String place, String name, String line) throws IOException, InterruptedException {
        prepare();
        writeTest(place, name, line);
        C.due(what, run(), 1);
        C.holds(what + " hides no other test: " + said, said.contains("\nok   ") || said.startsWith("ok   "));
    }

    private void prepare() throws IOException {
        room.write("main/.ci/run", Files.readString(Path.of(".ci/run")));
        room.write("main/src/main/java/EasyToHard.java", "public final class EasyToHard { }\n");
        writeTest(OWN, "OneTest", "");
        writeTest(OWN, "TwoTest", "");
        writeTest(SHARED, "First", "new EasyToHard();");
        writeTest(SHARED + "more/", "Deeper", "");
    }

    private void writeTest(String place, String name, String line) throws IOException {
        room.write(place + name + ".java", "public final class " + name + " {\n  public static void main(String[] args) {\n"
                + "    System.out.println(\"" + name + " ran\");\n    if (args != null) { " + line + " }\n  }\n}\n");
    }

    private int run() throws IOException, InterruptedException {
        Process process = new ProcessBuilder("bash", "main/.ci/run").directory(room.root.toFile())
                .redirectErrorStream(true).start();
        said = new String(process.getInputStream().readAllBytes());
        return process.waitFor();
    }
}
