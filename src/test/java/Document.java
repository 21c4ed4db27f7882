import java.io.IOException;
import java.nio.file.Files;
import java.nio.file.Path;
import java.util.ArrayList;
import java.util.List;

/** The words of the document: part 0 stands before the promises, part 1 is promise 1, and so on. */
final class Document {
    static final int PARTS = 40;

    private final List<StringBuilder> parts = new ArrayList<>();

    private Document() {
        for (int i = 0; i < PARTS; i++) {
            parts.add(new StringBuilder());
        }
    }

    static Document read(Path path) throws IOException {
        Document out = new Document();
        int part = 0;
        boolean code = false;
        for (String line : Files.readAllLines(path)) {
            if (line.startsWith("## Not promised")) {
                break;
            }
            if (line.startsWith("## Promise ")) {
                part = Integer.parseInt(line.substring(11, line.indexOf(':')));
            }
            if (line.startsWith("```")) {
                code = !code;
            } else if (!code && !isFaceOrHeading(line)) {
                out.add(part, line);
            }
        }
        return out;
    }

    /** FaceTest looks at the signatures. */
    private static boolean isFaceOrHeading(String line) {
        return line.startsWith("#") || line.startsWith("`") || line.startsWith("----");
    }

    private void add(int part, String line) {
        String words = line.startsWith("- ") ? line.substring(2) : line;
        words = words.replace("`", "").trim();
        StringBuilder into = parts.get(part);
        into.append(into.length() == 0 || words.isEmpty() ? "" : " ").append(words);
    }

    /** Holds quotations against a part: what they quote must stand there, and nothing may be left. */
    void compare(int part, List<String> quotations) {
        String words = parts.get(part).toString();
        boolean[] quoted = new boolean[words.length()];
        for (String quotation : quotations) {
            Expect.yes("that part " + part + " says: " + quotation, mark(words, quotation, quoted));
        }
        Expect.dueText("what nothing quotes of part " + part, left(words, quoted), "");
    }

    private static boolean mark(String words, String quotation, boolean[] quoted) {
        int at = words.indexOf(quotation);
        while (at >= 0 && quoted[at]) {
            at = words.indexOf(quotation, at + 1);
        }
        for (int i = 0; at >= 0 && i < quotation.length(); i++) {
            quoted[at + i] = true;
        }
        return at >= 0;
    }

    private static String left(String words, boolean[] quoted) {
        StringBuilder out = new StringBuilder();
        for (int i = 0; i < quoted.length; i++) {
            if (!quoted[i] && words.charAt(i) != ' ') {
                out.append(i > 0 && words.charAt(i - 1) == ' ' ? " " : "").append(words.charAt(i));
            }
        }
        return out.toString().trim();
    }
}
