import java.io.IOException;
import java.io.UncheckedIOException;
import java.nio.file.Files;
import java.nio.file.Path;

/** The words of ../shared/DOC.md in one line, without marks for code, and how far a test has gone through them. */
final class Document {
    private static final String TEXT = read();
    private static int at = 0;

    private Document() {
    }

    private static String read() {
        try {
            String text = Files.readString(Path.of("..", "shared", "DOC.md"));
            return text.replaceAll("```\\w*|`", "").replaceAll("\\s+", " ").strip();
        } catch (IOException e) {
            throw new UncheckedIOException(e);
        }
    }

    static boolean has(String words) {
        return TEXT.contains(words);
    }

    /** Goes on over the next words; any that the document has before these are left out, and so not as due. */
    static void goOn(String words) {
        Due.about(words);
        int found = TEXT.indexOf(words, at);
        Due.same("words left out before these", found < 0 ? "?" : TEXT.substring(at, found), "");
        at = found < 0 ? at : Math.min(TEXT.length(), found + words.length() + 1);
    }

    /** Goes on to a heading, over all that stands before it. */
    static String upTo(String heading) {
        int end = TEXT.indexOf(heading, at);
        Due.same("the heading " + heading, end >= 0 ? "there" : "missing", "there");
        String passed = TEXT.substring(at, Math.max(at, end));
        at = Math.max(at, end);
        return passed;
    }
}
