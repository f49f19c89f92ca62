import java.io.IOException;
import java.nio.charset.StandardCharsets;
import java.nio.file.Files;
import java.nio.file.Path;
import java.util.ArrayList;
import java.util.Arrays;
import java.util.List;
import java.util.Map;
import java.util.TreeMap;
import java.util.regex.Matcher;
import java.util.regex.Pattern;

/**
 * The document's sentences that name a boundary, each with what was asked of it. In the end they are held against
 * the document: each stands in it, and none of its words that name a boundary stands outside them.
 */
final class Sentences {
    /** The promise's number that stands for the document's Terms. */
    static final int TERMS = 0;

    private static final Path DOCUMENT = Path.of("../shared/DOC.md");
    private static final int PROMISES = 39;
    private static final Pattern NAMES_A_BOUNDARY = Pattern.compile("\\b(BAD|FULL|NONE|STATE|not FREE|not SOLVABLE"
        + "|not C|not of|not told|not m|at most|at first|at no other|\\d+ or more|more or fewer|more than|as they were|"
        + "what it was|stays?|changes nothing|wrap|cut|lowest|narrowed|kept|missing|nothing|no such|beyond|above 0|below 0"
        + "|above 6|above 40|is below|no int|no long|first named|alone|unlike|all 0|numbered)\\b|\\d+ to \\d+|-1[0-6]"
        + "\\b|-100");

    private static final Map<Integer, List<String>> named = new TreeMap<>();
    private static String now = "";
    private static int answers = 0;

    private Sentences() {
    }

    /** What follows is asked of these words of a promise. */
    static void of(int promise, String words) {
        isAsked();
        now = (promise == TERMS ? "Terms" : "promise " + promise) + ", '" + words + "'";
        answers = 0;
        named.computeIfAbsent(promise, p -> new ArrayList<>()).add(words);
    }

    static void is(String call, long got, long due) {
        answers++;
        Due.is(now + ": " + call, got, due);
    }

    /** The first items of a SHEET of ints. */
    static void items(String call, TwoSidedTables x, int sheet, int... due) {
        for (int i = 0; i < due.length; i++) {
            is(call + ", item " + i, x.item(sheet, 2, i), due[i]);
        }
    }

    /** That of the words told last something was asked. */
    private static void isAsked() {
        Due.is(now + ": nothing is asked of it", now.isEmpty() || answers > 0 ? 1 : 0, 1);
    }

    static void end() throws IOException {
        isAsked();
        String document = oneLine(Files.readString(DOCUMENT, StandardCharsets.UTF_8));
        holdAgainst(TERMS, between(document, "## Terms", "Ahead of the calls"));
        for (int promise = 1; promise <= PROMISES; promise++) {
            String end = promise < PROMISES ? "## Promise " + (promise + 1) + ":" : "## Not promised";
            holdAgainst(promise, between(document, "## Promise " + promise + ":", end));
        }
    }

    private static String oneLine(String text) {
        return text.replace("```text", " ").replace("```", " ").replaceAll("\\s+", " ");
    }

    private static String between(String text, String from, String to) {
        int begin = text.indexOf(from);
        int end = text.indexOf(to, begin + 1);
        Due.is("the document has " + from, begin >= 0 && end > begin ? 1 : 0, 1);
        return begin >= 0 && end > begin ? text.substring(begin + from.length(), end) : "";
    }

    private static void holdAgainst(int promise, String text) {
        boolean[] isNamed = new boolean[text.length()];
        for (String words : named.getOrDefault(promise, List.of())) {
            int at = text.indexOf(words);
            Due.is("the document's promise " + promise + " has '" + words + "'", at >= 0 ? 1 : 0, 1);
            if (at >= 0) {
                Arrays.fill(isNamed, at, at + words.length(), true);
            }
        }
        Matcher boundary = NAMES_A_BOUNDARY.matcher(text);
        while (boundary.find()) {
            String around = text.substring(Math.max(0, boundary.start() - 50), Math.min(text.length(), boundary.end() + 30));
            Due.is("promise " + promise + " has a test of '.. " + around + " ..'", isNamed[boundary.start()] ? 1 : 0, 1);
        }
    }
}
