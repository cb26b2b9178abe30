import java.io.IOException;
import java.nio.file.Files;
import java.nio.file.Path;
import java.util.regex.Matcher;
import java.util.regex.Pattern;

/**
 * The document's own words. A test says which section it is in and quotes each sentence ahead of
 * what it asks for it; the words have to stand there, and none of the section may be left over.
 */
final class Said {
    private static final Path DOCUMENT = Path.of("../shared/DOC.md");
    private static final String TEXT = read();

    private static String section = "";
    private static String body = null;
    private static boolean[] quoted = new boolean[0];

    private Said() {
    }

    /** Null where the program is tested without the document: then quotes are taken on trust. */
    private static String read() {
        try {
            return Files.isReadable(DOCUMENT) ? Files.readString(DOCUMENT) : null;
        } catch (IOException e) {
            return null;
        }
    }

    /** A section by its heading. */
    static void in(String heading) {
        in(heading, 0);
    }

    /** A part of a section: the document numbers some by a row of = and a number. */
    static void in(String heading, int part) {
        finish();
        section = part == 0 ? heading : heading + ", part " + part;
        Due.heading("[" + section + "] ");
        body = TEXT == null ? null : partOf(bodyOf(heading), part);
        quoted = new boolean[body == null ? 0 : body.length()];
    }

    private static String bodyOf(String heading) {
        Matcher found = Pattern.compile("(?ms)^## " + Pattern.quote(heading) + "$(.*?)(?=^## |\\z)")
            .matcher(TEXT);
        if (!found.find()) {
            return "";
        }
        return found.group(1).replaceAll("(?m)^```.*$", "").replaceAll("\\s+", " ")
            .replaceFirst("^ `[^`]*\\)`: ", "");
    }

    private static String partOf(String whole, int part) {
        String[] parts = whole.split("={8} (?=[0-9] )");
        for (String one : parts) {
            if (part > 0 && one.startsWith(part + " ")) {
                return one.substring(2);
            }
        }
        return part == 0 ? parts[0] : "";
    }

    /** The sentence, or the piece of one, that the next answers are asked for. */
    static void that(String words) {
        Due.heading("[" + section + ": " + words + "] ");
        if (body == null) {
            return;
        }
        int at = body.indexOf(words);
        Due.hold("the document says so", at >= 0);
        for (int i = 0; at >= 0 && i < words.length(); i++) {
            quoted[at + i] = true;
        }
    }

    private static void finish() {
        if (body == null) {
            return;
        }
        Due.heading("[" + section + "] ");
        Due.hold("the section has words", body.matches("(?s).*\\w.*"));
        StringBuilder left = new StringBuilder();
        for (int i = 0; i < body.length(); i++) {
            left.append(quoted[i] ? '|' : body.charAt(i));
        }
        Due.hold("all is quoted, left over: " + left.toString().replaceAll("\\|+", "|"),
            !left.toString().matches("(?s).*\\w.*"));
        body = null;
    }

    static void done() {
        finish();
        Due.done();
    }
}
