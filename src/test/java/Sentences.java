import java.io.IOException;
import java.io.UncheckedIOException;
import java.nio.charset.StandardCharsets;
import java.nio.file.Files;
import java.nio.file.Path;
import java.util.Arrays;
import java.util.Map;
import java.util.TreeMap;

/**
 * Tests of the document's sentences, each with an object of its own. The words of a sentence are
 * looked up in its promise, so that a test can't be of a sentence that the document does not have.
 */
abstract class Sentences extends Calls {
    static final int TERMS = 0;
    private static final Map<Integer, String> DOCUMENT = new TreeMap<>();
    private static final Map<Integer, Integer> TESTS_OF = new TreeMap<>();
    private static String now = "";
    private static int answers = 0;
    private static boolean right = true;
    private static int passed = 0;
    private static int failed = 0;

    static void readDocument() {
        String all;
        try {
            all = Files.readString(Path.of("../shared/DOC.md"), StandardCharsets.UTF_8);
        } catch (IOException e) {
            throw new UncheckedIOException(e);
        }
        for (String section : all.split("\n## ")) {
            String words = section.replaceAll("\\s+", " ");
            if (section.startsWith("Terms")) {
                DOCUMENT.put(TERMS, words);
            } else if (section.startsWith("Promise ")) {
                DOCUMENT.put(Integer.parseInt(section.substring(8, section.indexOf(':'))), words);
            }
        }
    }

    /** Begins the test of a sentence (or of a part of one) and gives the object for it. */
    static SheetNames told(int promise, String words) {
        endTest();
        now = (promise == TERMS ? "terms" : "promise " + promise) + ", \"" + words + "\"";
        answers = 0;
        right = true;
        TESTS_OF.merge(promise, 1, Integer::sum);
        if (!DOCUMENT.getOrDefault(promise, "").contains(words)) {
            right = false;
            System.out.println(now + ": the document does not say so");
        }
        return new SheetNames();
    }

    static void due(long got, long want) {
        answers++;
        if (got != want) {
            right = false;
            System.out.println(now + ": answer " + answers + " is " + got + ", due is " + want);
        }
    }

    static void dueText(String got, String want) {
        answers++;
        if (!got.equals(want)) {
            right = false;
            System.out.println(now + ": answer " + answers + " is " + got + ", due is " + want);
        }
    }

    static void dueRow(int[] got, int... want) {
        dueText(Arrays.toString(got), Arrays.toString(want));
    }

    private static void endTest() {
        if (now.isEmpty()) {
            return;
        }
        if (answers == 0) {
            right = false;
            System.out.println(now + ": nothing is looked at");
        }
        if (right) {
            passed++;
        } else {
            failed++;
        }
    }

    /** Ends the last test; each promise of a run of them must have had one. */
    static void end(int from, int to) {
        endTest();
        for (int promise = from; promise <= to; promise++) {
            if (!TESTS_OF.containsKey(promise)) {
                failed++;
                System.out.println("promise " + promise + " has no test of a sentence");
            }
        }
        System.out.println(passed + " passed, " + failed + " failed");
        if (failed > 0) {
            System.exit(1);
        }
    }
}
