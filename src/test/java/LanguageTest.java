import java.io.IOException;
import java.nio.file.Files;
import java.nio.file.Path;
import java.util.regex.Matcher;
import java.util.regex.Pattern;

/** Those rules of LANGUAGE.md that can be seen in the program's text. */
public final class LanguageTest {
    private static final Check C = new Check();
    private static final String[] BANNED = {"throw", "throws", "try", "catch", "finally", "synchronized", "assert",
        "package", "protected", "volatile", "native", "Object", "Exception", "Throwable", "Thread", "Random",
        "hashCode"};
    private static final String LIBRARY = "System\\.arraycopy|Arrays\\.(fill|copyOf|copyOfRange)"
            + "|(Math|Integer|Long)\\.(min|max|abs|signum|compare|bitCount|floorDiv|floorMod|numberOfTrailingZeros"
            + "|numberOfLeadingZeros|highestOneBit|lowestOneBit)";
    private static final Pattern METHOD = Pattern.compile(
            "(?m)^( +)(?:public |private |static |final )*[\\w\\[\\]]+ ?\\w*\\(([^;{}]*?)\\) \\{$");

    public static void main(String[] args) throws IOException {
        String path = args.length > 0 ? args[0] : "src/main/java/EasyToHard.java";
        String text = Files.readString(Path.of(path));
        String code = withoutComments(text);
        C.holds("texts hold signs 1 to 127", text.chars().allMatch(c -> c == '\n' || c >= 32 && c < 127));
        words(code);
        libraryCalls(code);
        methods(code);
        C.finish();
    }

    private static String withoutComments(String text) {
        return text.replaceAll("(?s)/\\*.*?\\*/", "").replaceAll("//[^\n]*", "");
    }

    private static void words(String code) {
        for (String word : BANNED) {
            C.holds("no " + word, !Pattern.compile("\\b" + word + "\\b").matcher(code).find());
        }
        C.holds("no lambda", !code.contains("->"));
        C.holds("no method reference", !code.contains("::"));
        C.holds("no function of the Exact kind", !code.contains("Exact("));
        Matcher imports = Pattern.compile("(?m)^import (.*);$").matcher(code);
        while (imports.find()) {
            C.holds("import " + imports.group(1), imports.group(1).matches("java\\.util\\.(Arrays|ArrayList|List|Iterator)"));
        }
    }

    private static void libraryCalls(String code) {
        Matcher calls = Pattern.compile("\\b(System|Arrays|Math|Integer|Long)\\.(\\w+)\\(").matcher(code);
        while (calls.find()) {
            String call = calls.group(1) + "." + calls.group(2);
            C.holds(call, call.matches(LIBRARY));
        }
    }

    private static void methods(String code) {
        Matcher m = METHOD.matcher(code);
        int found = 0;
        while (m.find()) {
            String head = m.group().trim();
            if (head.matches("(if|for|while|switch|\\}).*")) {
                continue;
            }
            found++;
            int end = code.indexOf("\n" + m.group(1) + "}", m.end());
            long lines = code.substring(m.start(), end).lines().count() + 1;
            C.holds(head + " has " + lines + " lines", lines <= 60);
            int parameters = m.group(2).isBlank() ? 0 : m.group(2).split(",").length;
            C.holds(head + " has " + parameters + " parameters", parameters <= 7);
        }
        C.holds("methods were found: " + found, found > 36);
    }
}
