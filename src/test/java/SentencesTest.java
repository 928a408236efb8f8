import java.io.IOException;
import java.nio.file.Files;
import java.nio.file.Path;
import java.util.ArrayList;
import java.util.List;
import java.util.regex.Matcher;
import java.util.regex.Pattern;
import java.util.stream.Stream;

/**
 * Each sentence of the document has a test: the words that tests name by says() stand in the document,
 * and none of its words, from the terms to the last promise, is left without a test that names it.
 */
public final class SentencesTest {
    private static final Check C = new Check();
    private static final int PROMISES = 36;
    private static final Pattern SAYS = Pattern.compile(
            "\\.says\\((\\d+),\\s*((?:\"(?:[^\"\\\\]|\\\\.)*\"\\s*\\+?\\s*)+)\\)");
    private static final Pattern LITERAL = Pattern.compile("\"((?:[^\"\\\\]|\\\\.)*)\"");
    /** Headings, signatures, fences, what the interface says: they promise nothing of their own. */
    private static final Pattern NO_PROMISE = Pattern.compile(
            "(?m)^## .*$|^`[^`]*`:|^```.*$|^Ahead of the calls .*$|======== \\d|^Nothing is promised .*$");

    private final List<String> sections = new ArrayList<>();
    private final List<boolean[]> named = new ArrayList<>();

    private SentencesTest(String doc) {
        int start = 0;
        for (int promise = 1; promise <= PROMISES + 1; promise++) {
            int end = promise <= PROMISES ? doc.indexOf("## Promise " + promise + ":") : doc.indexOf("## Not promised");
            C.holds("promise " + promise + " begins behind the one ahead", end > start);
            String section = doc.substring(start, Math.max(start, end));
            sections.add(promise == 1 ? withoutTheFace(section) : section);
            named.add(new boolean[sections.get(promise - 1).length()]);
            start = Math.max(start, end);
        }
    }

    public static void main(String[] args) throws IOException {
        SentencesTest test = new SentencesTest(Files.readString(Path.of("../shared/DOC.md")));
        try (Stream<Path> files = Files.list(Path.of("src/test/java"))) {
            for (Path file : files.sorted().toList()) {
                test.nameAll(file.getFileName().toString(), Files.readString(file));
            }
        }
        test.lookForTheRest();
        C.finish();
    }

    /** Of what stands ahead of the terms, only the sentence on questions and that on calls. */
    private static String withoutTheFace(String section) {
        int questions = section.indexOf("======== 1 QUESTIONS");
        int face = section.indexOf("## The public face");
        int terms = section.indexOf("## Terms");
        C.holds("the document's beginning is as it was", 0 < questions && questions < face && face < terms);
        return section.substring(questions, face) + section.substring(terms);
    }

    private void nameAll(String file, String code) {
        Matcher says = SAYS.matcher(code);
        while (says.find()) {
            int promise = Integer.parseInt(says.group(1));
            StringBuilder words = new StringBuilder();
            Matcher literal = LITERAL.matcher(says.group(2));
            while (literal.find()) {
                words.append(literal.group(1));
            }
            boolean isFound = promise <= PROMISES && name(promise, words.toString());
            C.holds(file + " names '" + words + "' of promise " + promise, isFound);
        }
    }

    private boolean name(int promise, String words) {
        Matcher place = Pattern.compile(Pattern.quote(words)).matcher(sections.get(promise));
        boolean isFound = false;
        while (place.find()) {
            isFound = true;
            for (int i = place.start(); i < place.end(); i++) {
                named.get(promise)[i] = true;
            }
        }
        return isFound;
    }

    private void lookForTheRest() {
        for (int promise = 0; promise <= PROMISES; promise++) {
            String section = sections.get(promise);
            Matcher without = NO_PROMISE.matcher(section);
            while (without.find()) {
                for (int i = without.start(); i < without.end(); i++) {
                    named.get(promise)[i] = true;
                }
            }
            StringBuilder rest = new StringBuilder();
            for (int i = 0; i < section.length(); i++) {
                rest.append(named.get(promise)[i] ? '|' : section.charAt(i));
            }
            String left = rest.toString().replaceAll("\\|+", "|").replaceAll("\\s+", " ");
            C.holds("of promise " + promise + " no test names: " + left, !left.matches(".*[A-Za-z0-9].*"));
        }
    }
}
