import java.io.IOException;
import java.nio.file.Files;
import java.nio.file.Path;
import java.util.BitSet;
import java.util.LinkedHashMap;
import java.util.Map;
import java.util.function.Consumer;

/**
 * Ties tests to the sentences of the document: a test names the words that it tests, and they have to
 * stand in the document; at the end, each word of the document has to belong to a test or to be among
 * those that are said to name no boundary.
 */
final class Sentences {
    private final Map<String, String> parts = new LinkedHashMap<>();
    private final Map<String, BitSet> told = new LinkedHashMap<>();
    private String part = "";
    private int tests;
    private int failed;
    private int answers;

    Sentences(Path document) throws IOException {
        String heading = "";
        boolean code = false;
        for (String line : Files.readAllLines(document)) {
            if (line.startsWith("```")) {
                code = !code;
            } else if (line.startsWith("#")) {
                heading = line.replaceFirst("#+ ", "");
                parts.put(heading, "");
            } else if (!code && !line.isEmpty()) {
                parts.merge(heading, line + " ", String::concat);
            }
        }
        for (String name : parts.keySet()) {
            told.put(name, new BitSet());
        }
    }

    /** The sentences that follow stand under this heading. */
    void under(String heading) {
        part = heading;
        if (!parts.containsKey(heading)) {
            fail("no such heading");
        }
    }

    void test(String words, Consumer<Due> test) {
        find(words);
        Due due = new Due("under \"" + part + "\", \"" + words + "\"");
        test.accept(due);
        tests++;
        answers += due.calls();
        if (!due.passed()) {
            failed++;
        }
    }

    /** Words that name no boundary case, or say again what another sentence says. */
    void noBoundary(String words) {
        find(words);
    }

    /** A part of the document that other tests look at as a whole, or that promises nothing. */
    void leftOut(String heading) {
        under(heading);
        find(parts.getOrDefault(heading, ""));
    }

    private void find(String words) {
        String text = parts.getOrDefault(part, "");
        int start = text.indexOf(words);
        if (start < 0) {
            fail("these words don't stand there: " + words);
        } else {
            told.get(part).set(start, start + words.length());
        }
    }

    private void fail(String what) {
        failed++;
        System.out.println("Sentences: under \"" + part + "\": " + what);
    }

    /** Ends the program with exit code 1 if a test failed or a word of the document has none. */
    void end() {
        for (Map.Entry<String, String> entry : parts.entrySet()) {
            part = entry.getKey();
            String left = leftWords(entry.getValue(), told.get(part));
            if (!left.isEmpty()) {
                fail("no test for: " + left);
            }
        }
        System.out.println("Sentences: " + tests + " tests with " + answers + " answers, " + failed + " failed");
        if (failed > 0 || tests == 0) {
            System.exit(1);
        }
    }

    /** The letters and numbers that belong to no test, each row of them with a blank behind it. */
    private static String leftWords(String text, BitSet told) {
        StringBuilder left = new StringBuilder();
        for (int place = 0; place < text.length(); place++) {
            if (!told.get(place) && Character.isLetterOrDigit(text.charAt(place))) {
                left.append(text.charAt(place));
            } else if (left.length() > 0 && left.charAt(left.length() - 1) != ' ') {
                left.append(' ');
            }
        }
        return left.toString();
    }
}
