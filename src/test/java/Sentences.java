import java.io.IOException;
import java.io.UncheckedIOException;
import java.nio.file.Files;
import java.nio.file.Path;

/**
 * The sentences of ../shared/DOC.md and the tests that claim them. A test names the sentences that it would show to be
 * broken; a sentence that no test names is reported, and so is a name that is no sentence of the document.
 */
final class Sentences {
    /** The number of the section "Description"; those of the promises are their own. */
    static final int DESCRIPTION = 0;
    static final int PROMISES = 64;

    private static final String[] TEXTS = read();
    private static final boolean[][] CLAIMED = new boolean[PROMISES + 1][];

    static {
        for (int i = 0; i <= PROMISES; i++) {
            CLAIMED[i] = new boolean[TEXTS[i].length()];
        }
    }

    private Sentences() {
    }

    static void test(int section, Runnable test, String... sentences) {
        for (String sentence : sentences) {
            claim(section, folded(sentence));
        }
        Check.within(section == DESCRIPTION ? "description" : "promise " + section, test);
    }

    private static void claim(int section, String sentence) {
        int at = TEXTS[section].indexOf(sentence);
        if (at < 0) {
            Check.report("section " + section, "a sentence of the document", sentence);
        }
        for (; at >= 0; at = TEXTS[section].indexOf(sentence, at + 1)) {
            for (int i = 0; i < sentence.length(); i++) {
                CLAIMED[section][at + i] = true;
            }
        }
    }

    static void dueAllClaimed() {
        for (int section = 0; section <= PROMISES; section++) {
            StringBuilder left = new StringBuilder();
            for (int i = 0; i < TEXTS[section].length(); i++) {
                left.append(CLAIMED[section][i] ? '\n' : TEXTS[section].charAt(i));
            }
            for (String part : left.toString().split("\n+")) {
                if (part.matches(".*[A-Za-z0-9].*")) {
                    Check.report("section " + section, "a test of this sentence", part);
                }
            }
        }
    }

    private static String[] read() {
        String[] texts = new String[PROMISES + 1];
        String document;
        try {
            document = Files.readString(Path.of("../shared/DOC.md"));
        } catch (IOException e) {
            throw new UncheckedIOException(e);
        }
        // The constants have a test of their own, FaceTest.
        texts[DESCRIPTION] = folded(between(document, "## Description\n", "The constants:\n"));
        for (int promise = 1; promise <= PROMISES; promise++) {
            String section = between(document, "## Promise " + promise + ":", "\n## ");
            StringBuilder sentences = new StringBuilder();
            for (String line : section.split("\n\n?")) {
                boolean isHeading = section.startsWith(line);
                if (!isHeading && !line.startsWith("`")) {
                    sentences.append(line).append('\n');
                }
            }
            texts[promise] = folded(sentences.toString());
        }
        return texts;
    }

    private static String between(String text, String start, String end) {
        int from = text.indexOf(start) + start.length();
        return text.substring(from, text.indexOf(end, from));
    }

    private static String folded(String text) {
        return text.replaceAll("\\s+", " ").trim();
    }
}
