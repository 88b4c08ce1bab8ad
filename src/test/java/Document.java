import java.io.IOException;
import java.nio.file.Files;
import java.nio.file.Path;
import java.util.ArrayList;
import java.util.BitSet;
import java.util.List;

/**
 * The document's sentences that say what holds: those of 'What it is' on the calls and of 'Terms', and
 * of each promise what it does, answers and throws. Tests quote them; what no test quoted can be listed.
 */
final class Document {
    private static final Path PATH = Path.of("../shared/DOC.md");
    private static final int PROMISES = 26;

    /** A line of the document, and which of its signs were quoted. */
    private static final class Line {
        final int promise;
        final String text;
        final BitSet quoted = new BitSet();

        Line(int promise, String text) {
            this.promise = promise;
            this.text = text;
        }

        boolean quote(String words) {
            boolean isFound = false;
            for (int at = text.indexOf(words); at >= 0; at = text.indexOf(words, at + 1)) {
                quoted.set(at, at + words.length());
                isFound = true;
            }
            return isFound;
        }

        String notQuoted() {
            StringBuilder rest = new StringBuilder();
            for (int at = 0; at < text.length(); at++) {
                rest.append(quoted.get(at) || ",.;:() ".indexOf(text.charAt(at)) >= 0 ? ' ' : text.charAt(at));
            }
            return rest.toString().trim().replaceAll(" +", " ");
        }
    }

    private final List<Line> lines = new ArrayList<>();

    Document() throws IOException {
        if (!Files.exists(PATH)) {
            System.out.println("no " + PATH + " here: whether its sentences are quoted is not looked at");
            return;
        }
        int promise = -1;
        boolean isTold = false;
        for (String raw : Files.readAllLines(PATH)) {
            String text = raw.replace("`", "").trim();
            if (text.startsWith("## ")) {
                promise = text.startsWith("## Promise ") ? numberOf(text) : 0;
                isTold = promise > 0 || text.equals("## Terms") || text.equals("## What it is");
            } else if (isTold && promise > 0) {
                addOfPromise(promise, text);
            } else if (isTold && isSentenceOfTerms(text)) {
                lines.add(new Line(0, text.replaceFirst("^[1-4] ", "")));
            }
        }
    }

    private static int numberOf(String heading) {
        return Integer.parseInt(heading.substring("## Promise ".length(), heading.indexOf(':')));
    }

    private static boolean isSentenceOfTerms(String text) {
        return !text.isEmpty() && !text.equals("text") && !text.startsWith("Its calls: ")
            && !text.startsWith("Ahead of the calls") && !text.equals("A city that is written on.");
    }

    /** Of the lines of a promise those that only name its arguments say nothing that could hold. */
    private void addOfPromise(int promise, String text) {
        String told = text;
        if (!text.startsWith("- ") && text.contains("): ") || text.startsWith("Wallcode(")) {
            told = text.substring(text.indexOf("): ") + 3);
        } else if (text.contains("Exception: ")) {
            told = text.substring(text.indexOf("Exception: ") + "Exception: ".length());
        }
        if (!told.isEmpty() && (!told.startsWith("- ") || told.startsWith("- what: "))) {
            lines.add(new Line(promise, told.replaceFirst("^- what: ", "")));
        }
    }

    boolean isThere() {
        return !lines.isEmpty();
    }

    /** Whether the promise, or else 'What it is' or 'Terms', says these words. */
    boolean quote(int promise, String words) {
        boolean isFound = false;
        for (Line line : lines) {
            isFound |= line.promise == promise && line.quote(words);
        }
        for (Line line : lines) {
            isFound |= !isFound && line.promise == 0 && line.quote(words);
        }
        return isFound && promise >= 1 && promise <= PROMISES;
    }

    /** The words that no test quoted, line by line. */
    List<String> notQuoted() {
        List<String> rest = new ArrayList<>();
        for (Line line : lines) {
            if (!line.notQuoted().isEmpty()) {
                rest.add((line.promise == 0 ? "Terms" : "promise " + line.promise) + ": " + line.notQuoted());
            }
        }
        return rest;
    }
}
