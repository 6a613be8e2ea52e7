import java.io.IOException;
import java.nio.charset.StandardCharsets;
import java.nio.file.Files;
import java.nio.file.Path;

/**
 * Looks at answers, sentence by sentence of the document: a sentence that is quoted must stand there, must have
 * an answer looked at, and at the end no part of the document may be left that was not quoted.
 */
final class Check {
    private final String document;
    private final boolean[] quoted;
    private String sentence = "";
    private int sentences = 0;
    private int answers = 0;
    private int answersOfSentence = 1;
    private int wrong = 0;

    Check(Path path) throws IOException {
        String text = Files.readString(path, StandardCharsets.UTF_8);
        String uses = part(text, "An object is used", "## The public face");
        String rest = part(text, "## Terms", "## Not promised");
        document = plainText(uses + "\n" + rest);
        quoted = new boolean[document.length()];
    }

    private static String part(String text, String from, String to) {
        int start = text.indexOf(from);
        int end = text.indexOf(to);
        return start < 0 || end < start ? "" : text.substring(start, end);
    }

    /** Without headings and fences, in one line: a quotation may go over several. */
    private static String plainText(String text) {
        return text.replaceAll("(?m)^#.*$", " ").replaceAll("(?m)^```.*$", " ").replaceAll("\\s+", " ");
    }

    /** What is looked at from here on belongs to this sentence. */
    void sentence(String quotation) {
        endSentence();
        quote(quotation);
        sentence = quotation;
        sentences++;
        answersOfSentence = 0;
    }

    /** A sentence that names no boundary. */
    void aside(String quotation) {
        quote(quotation);
    }

    private void quote(String quotation) {
        String plain = plainText(quotation);
        int found = document.indexOf(plain);
        if (found < 0) {
            fail("the document does not say: " + quotation);
        }
        for (int at = found; at >= 0; at = document.indexOf(plain, at + 1)) {
            java.util.Arrays.fill(quoted, at, at + plain.length(), true);
        }
    }

    private void endSentence() {
        if (answersOfSentence == 0) {
            fail("no answer was looked at");
        }
    }

    private void fail(String why) {
        wrong++;
        System.out.println("\"" + sentence + "\": " + why);
    }

    void due(String call, long got, long want) {
        answers++;
        answersOfSentence++;
        if (got != want) {
            fail(call + " answered " + got + ", due is " + want);
        }
    }

    /** An answer with STATUS 0, -1 among them. */
    void good(PoleSets x, String call, long got, long want) {
        int status = x.status();
        due(call, got, want);
        due("status() after " + call, status, 0);
    }

    /** NONE with a STATUS, which stays as it is when it is asked for. */
    void refused(PoleSets x, String call, long got, int want) {
        int status = x.status();
        due(call, got, PoleSets.NONE);
        due("status() after " + call, status, want);
        due("status() once more after " + call, x.status(), want);
    }

    /** How many are wrong, with the sentences of the document that were never quoted. */
    int end() {
        endSentence();
        int start = -1;
        for (int i = 0; i <= document.length(); i++) {
            boolean open = i < document.length() && !quoted[i];
            if (open && start < 0) {
                start = i;
            } else if (!open && start >= 0) {
                String left = document.substring(start, i);
                if (left.matches(".*\\w.*")) {
                    sentence = left;
                    fail("was not looked at");
                }
                start = -1;
            }
        }
        System.out.println(wrong == 0 ? answers + " answers to " + sentences + " sentences are as due"
            : wrong + " are not as due");
        return wrong;
    }
}
