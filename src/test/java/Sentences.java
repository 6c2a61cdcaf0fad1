import java.io.IOException;
import java.nio.file.Files;
import java.nio.file.Path;
import java.util.ArrayList;
import java.util.LinkedHashMap;
import java.util.List;
import java.util.Map;

/**
 * Tests that each belong to a sentence of the document. A sentence that the document does not hold
 * is a fault of the test, and one for which there is no test is named at the end.
 */
final class Sentences {

    /** A chapter of the document in one line, and where its sentences begin. */
    private static final class Chapter {
        final StringBuilder words = new StringBuilder();
        final List<Integer> begins = new ArrayList<>();
        final List<Boolean> tested = new ArrayList<>();

        void begin() {
            int at = words.length();
            if (begins.isEmpty() || begins.get(begins.size() - 1) < at) {
                begins.add(at);
                tested.add(false);
            }
        }

        void add(String line) {
            for (String word : line.trim().split(" +")) {
                words.append(word).append(' ');
                if (word.endsWith(".") || word.endsWith(";")) {
                    begin();
                }
            }
        }

        String sentence(int i) {
            int end = i + 1 < begins.size() ? begins.get(i + 1) : words.length();
            return words.substring(Math.min(begins.get(i), words.length()), end).trim();
        }

        void mark(int from, int to) {
            for (int i = 0; i < begins.size(); i++) {
                int end = i + 1 < begins.size() ? begins.get(i + 1) : words.length();
                if (begins.get(i) < to && from < end) {
                    tested.set(i, true);
                }
            }
        }
    }

    /** Empty where there is no document; the tests can be made all the same. */
    private static final Map<String, Chapter> chapters = new LinkedHashMap<>();

    private Sentences() {
    }

    /** Chapters are named by the first words of their headings: "Description", "Promise 7". */
    static void read(String file) throws IOException {
        if (!Files.exists(Path.of(file))) {
            System.out.println("there is no document " + file + ": sentences are not looked up");
            return;
        }
        Chapter now = new Chapter();
        boolean isCode = false;
        boolean isNew = true;
        for (String line : Files.readAllLines(Path.of(file))) {
            isCode ^= line.startsWith("```");
            if (line.startsWith("## ")) {
                now = new Chapter();
                chapters.put(line.substring(3).replaceAll(":.*", ""), now);
            } else if (line.isBlank() || isCode || line.startsWith("#") || line.startsWith("```")) {
                isNew = true;
            } else {
                boolean isItem = line.startsWith("  ") || line.startsWith("- ");
                if (isNew || isItem) {
                    now.begin();
                }
                isNew = isItem;
                now.add(line);
            }
        }
    }

    private static void find(String where, String words) {
        if (chapters.isEmpty()) {
            return;
        }
        Chapter chapter = chapters.get(where);
        int at = chapter == null ? -1 : chapter.words.indexOf(words);
        boolean isOne = at >= 0 && chapter.words.indexOf(words, at + 1) < 0;
        Due.due("the words '" + words + "' stand once in " + where, isOne ? 1 : 0, 1);
        if (isOne) {
            chapter.mark(at, at + words.length());
        }
    }

    /** A test for a sentence, or for what is remarked of it. */
    static void of(String where, String words, String remark, Runnable test) {
        find(where, words);
        Due.about(where + ", \"" + words + "\"" + (remark.isEmpty() ? "" : ", " + remark) + ": ");
        try {
            test.run();
        } catch (RuntimeException thrown) {
            thrown.printStackTrace(System.out);
            Due.due("an exception", 1, 0);
        }
        Due.about("");
    }

    static void of(String where, String words, Runnable test) {
        of(where, words, "", test);
    }

    /** A sentence that says nothing that could be tested by itself. */
    static void saysNoCase(String where, String words) {
        find(where, words);
    }

    /** Headings, signatures and the names of groups are no sentences. */
    private static boolean isNoSentence(String words) {
        return words.isEmpty() || words.startsWith("`") || words.startsWith("----") || words.equals(words.toUpperCase());
    }

    static void allAreTested() {
        for (Map.Entry<String, Chapter> each : chapters.entrySet()) {
            Chapter chapter = each.getValue();
            boolean isPromised = each.getKey().matches("What it is|Description|Promise.*");
            for (int i = 0; isPromised && i < chapter.begins.size(); i++) {
                String sentence = chapter.sentence(i).replaceFirst("^---- [a-z ]+$", "----");
                if (!isNoSentence(sentence) && !chapter.tested.get(i)) {
                    Due.due(each.getKey() + ", \"" + sentence + "\" has a test", 0, 1);
                }
            }
        }
    }
}
