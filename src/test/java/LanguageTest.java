import java.io.IOException;
import java.nio.file.Files;
import java.nio.file.Path;
import java.util.Set;
import java.util.regex.Matcher;
import java.util.regex.Pattern;

/** What of LANGUAGE.md can be seen in the text of the program: words, library, lengths. */
public final class LanguageTest {
    private static final Path SOURCE = Path.of("src/main/java/ClockZones.java");
    private static final Set<String> LIBRARY = Set.of("Arrays.fill", "Arrays.copyOf",
        "Arrays.copyOfRange", "System.arraycopy", "Math.max", "Math.min", "Math.abs",
        "Integer.compare", "Integer.bitCount");
    private static final int LONGEST_METHOD = 60;
    private static final int MOST_PARAMETERS = 7;
    private static final int MOST_CLASSES = 12;

    public static void main(String[] args) throws IOException {
        String text = Files.readString(SOURCE);
        Due.hold("only characters 0 to 127", text.chars().allMatch(c -> c < 128));
        String code = text.replaceAll("(?s)/\\*.*?\\*/", "").replaceAll("//[^\n]*", "");
        words(code);
        library(code);
        classes(code);
        methods(code);
        Due.done();
    }

    private static int times(String code, String pattern) {
        Matcher matcher = Pattern.compile(pattern).matcher(code);
        int all = 0;
        while (matcher.find()) {
            all++;
        }
        return all;
    }

    private static void words(String code) {
        String[] none = {"package", "throw", "throws", "try", "catch", "finally", "synchronized",
            "assert", "native", "volatile", "protected", "Object", "Exception", "hashCode",
            "toString", "Thread", "Random", "nanoTime", "currentTimeMillis", "var"};
        for (String word : none) {
            Due.be("the word " + word, times(code, "\\b" + word + "\\b"), 0);
        }
        Due.be("a lambda", times(code, "->"), 0);
        Due.be("a method reference", times(code, "::"), 0);
        Due.be("a class without a name", times(code, "new \\w+\\([^()]*\\)\\s*\\{"), 0);
        Due.be("a static block", times(code, "static\\s*\\{"), 0);
        Due.be("a text joined by +", times(code, "\"\\s*\\+|\\+\\s*\""), 0);
        Due.be("a division", times(code, "[^/]/[^/]|%"), 0);
        Due.be("a static field that is not final",
            times(code, "static (?!final|int sum|long mix|boolean is)[^;{(]*[;=]"), 0);
    }

    private static void library(String code) {
        Matcher imports = Pattern.compile("import ([^;]*);").matcher(code);
        while (imports.find()) {
            Due.hold("import of " + imports.group(1), imports.group(1).equals("java.util.Arrays"));
        }
        Matcher calls = Pattern.compile("\\b(Arrays|System|Math|Integer|Long)\\.(\\w+)").matcher(code);
        while (calls.find()) {
            Due.hold("call of " + calls.group(), LIBRARY.contains(calls.group()));
        }
    }

    private static void classes(String code) {
        Due.hold("classes are few", times(code, "\\bclass\\b") <= MOST_CLASSES);
        Due.be("classes inside are private, static and final",
            times(code, "\n    private static final class "), times(code, "\\bclass\\b") - 1);
        Due.be("public words: class, constants, constructor, methods", times(code, "\\bpublic\\b"), 23);
    }

    private static void methods(String code) {
        String[] lines = code.split("\n");
        for (int i = 0; i < lines.length; i++) {
            Matcher head = Pattern.compile("^( {4}| {8})(\\w[\\w\\[\\] ]*)\\((.*)\\) \\{$").matcher(lines[i]);
            if (!head.matches() || head.group(2).matches("(if|for|while|switch).*")) {
                continue;
            }
            int end = i;
            while (end < lines.length && !lines[end].equals(head.group(1) + "}")) {
                end++;
            }
            Due.hold(head.group(2) + " is short", end - i < LONGEST_METHOD);
            Due.hold(head.group(2) + " takes few", head.group(3).split(",").length <= MOST_PARAMETERS);
        }
    }
}
