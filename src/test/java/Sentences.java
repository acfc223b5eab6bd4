import java.io.IOException;
import java.nio.charset.StandardCharsets;
import java.nio.file.Files;
import java.nio.file.Path;
import java.util.ArrayList;
import java.util.HashMap;
import java.util.List;
import java.util.Map;
import java.util.regex.Matcher;
import java.util.regex.Pattern;

/** The document's sentences: those that tests quote must stand in it, and each word of it must stand in one of them. */
final class Sentences {
    private static final Path DOC = Path.of("../shared/DOC.md");
    private static final int TERMS = 0;
    private static final int ANYWHERE = -1;
    private static final Pattern WORD = Pattern.compile("[A-Za-z0-9]+");

    /** A part of the document in one line, and which of its signs have been quoted. */
    private static final class Part {
        final String text;
        final boolean[] quoted;

        Part(String text) {
            this.text = text.replaceAll("\\s+", " ").trim();
            this.quoted = new boolean[this.text.length()];
        }

        boolean quote(String sentence) {
            int at = text.indexOf(sentence);
            boolean found = at >= 0;
            for (; at >= 0; at = text.indexOf(sentence, at + 1)) {
                for (int i = at; i < at + sentence.length(); i++) {
                    quoted[i] = true;
                }
            }
            return found;
        }

        List<String> wordsLeft() {
            List<String> left = new ArrayList<>();
            Matcher words = WORD.matcher(text);
            while (words.find()) {
                if (!quoted[words.start()]) {
                    int from = Math.max(0, words.start() - 15);
                    left.add("'" + words.group() + "' in '.." + text.substring(from, Math.min(text.length(), words.end() + 15)) + "..'");
                }
            }
            return left;
        }
    }

    private final Map<Integer, Part> parts = new HashMap<>();

    Sentences() {
        String doc = read();
        parts.put(ANYWHERE, new Part(doc));
        int terms = doc.indexOf("## Terms");
        int first = doc.indexOf("## Promise 1:");
        int end = doc.indexOf("## Not promised");
        parts.put(TERMS, new Part(withoutFrame(doc.substring(terms, first))));
        for (int promise = 1; promise <= 30; promise++) {
            int from = doc.indexOf("## Promise " + promise + ":");
            int next = doc.indexOf("## Promise " + (promise + 1) + ":");
            parts.put(promise, new Part(withoutFrame(doc.substring(from, next < 0 ? end : next))));
        }
    }

    private static String read() {
        try {
            return Files.readString(DOC, StandardCharsets.UTF_8);
        } catch (IOException gone) {
            throw new IllegalStateException("no document at " + DOC.toAbsolutePath(), gone);
        }
    }

    /** Leaves out heads, the calls' own lines in the face, the signs of a frame, the interface's heads of groups. */
    private static String withoutFrame(String text) {
        return text.replaceAll("(?m)^## .*$", "").replaceAll("(?m)^Ahead of the calls .*$", "")
            .replaceAll("```text|```", "").replaceAll("==== [123] ", "").replaceAll("`[^`]*\\)`:", "");
    }

    /** Whether a sentence stands with a promise, or with the terms, or elsewhere in the document. */
    boolean quote(int promise, String sentence) {
        return parts.get(promise).quote(sentence) || parts.get(TERMS).quote(sentence)
            || parts.get(ANYWHERE).quote(sentence);
    }

    List<String> wordsLeft() {
        List<String> left = new ArrayList<>();
        for (int promise = TERMS; promise <= 30; promise++) {
            for (String word : parts.get(promise).wordsLeft()) {
                left.add((promise == TERMS ? "Terms" : "promise " + promise) + ": " + word);
            }
        }
        return left;
    }
}
