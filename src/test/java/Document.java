import java.io.IOException;
import java.nio.file.Files;
import java.nio.file.Path;
import java.util.regex.Matcher;
import java.util.regex.Pattern;

/** ../shared/DOC.md against the sentences that the tests name: each stands there, and none is left out. */
final class Document {
    private static final Path PLACE = Path.of("../shared/DOC.md");
    /** Words that only join what is told, or name what is told behind them. */
    private static final String JOINTS = "(or have|and|then|Then|TEXTS|TOKENS|tide|FAULTS|ACTS|NONE|NET|RUN|n|A STORM"
        + "|KINDS of WATERS|ASKS of WATERS, by BODIES|Of an ask|FRAUDS)";

    private Document() {
    }

    static void isWhollyTested() throws IOException {
        if (!Files.exists(PLACE)) {
            System.out.println("no " + PLACE + ": that every sentence of it is tested was not looked at");
            return;
        }
        String text = Files.readString(PLACE).replaceAll("\\s+", " ");
        StringBuilder left = new StringBuilder(text);
        for (String[] tested : Due.tested()) {
            cross(text, left, tested[0], tested[1]);
        }
        Due.sentence("the document", "whole");
        Due.same("what no test names", "", untested(left.substring(left.indexOf("## Terms"))));
    }

    private static void cross(String text, StringBuilder left, String heading, String words) {
        int from = placeOf(text, heading);
        int to = text.indexOf("## ", from + 3);
        int at = from < 0 ? -1 : text.indexOf(words, from);
        boolean stands = at >= 0 && (to < 0 || at < to);
        Due.is("stands under " + heading + ": " + words, 1, stands ? 1 : 0);
        for (int i = at; stands && i < at + words.length(); i++) {
            left.setCharAt(i, '_');
        }
    }

    private static int placeOf(String text, String heading) {
        for (String mark : new String[] {"## " + heading + ":", "## " + heading + " ", "======== " + heading + " "}) {
            if (text.contains(mark)) {
                return text.indexOf(mark);
            }
        }
        return text.indexOf(heading);
    }

    /** What is left of the text, but for headings, the calls' own lines, joints, and what is not promised. */
    private static String untested(String left) {
        String rest = left.replaceAll("## Promise \\d+: [\\w ]+? `[^`]*`:", "|")
            .replaceAll("Ahead of the calls .*?the interface says: ---- [\\w, ]+\\.", "|")
            .replaceAll("## Not promised.*", "|").replaceAll("## Terms", "|")
            .replaceAll("```(text)?", "|").replaceAll("======== \\d", "|");
        StringBuilder found = new StringBuilder();
        Matcher stretch = Pattern.compile("[^_|]+").matcher(rest);
        while (stretch.find()) {
            String words = stretch.group().replaceAll("\\b" + JOINTS + "\\b", "");
            if (Pattern.compile("\\w").matcher(words).find()) {
                found.append('\'').append(stretch.group().trim()).append("' ");
            }
        }
        return found.toString();
    }
}
