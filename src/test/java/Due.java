import java.nio.charset.StandardCharsets;
import java.util.ArrayList;
import java.util.List;

/** What the tests share: comparing an answer with the one that is due, and feeding texts. */
final class Due {
    static final String TIDE = "tide 0 6 14 22 30 31 30 22 14 6 1 0;";
    /** Every HOUR of it is NEAP. */
    static final String NEAP = "tide 0 1 2 3 4 5 6 5 4 3 2 1;";
    /** No HOUR of it is NEAP. */
    static final String SPRING = "tide 40 0 40 0 40 0 40 0 40 0 40 0;";
    static final String FIVE = "water cove 12 0;water pool 20 15;water lagoon 9 3;water well 30 7;water dyke 50 0;";

    private static int wrong = 0;
    private static int asked = 0;
    /** Which sentence of the document is tested; ahead of the first one, none. */
    private static String sentence = "";
    /** Headings and words of all sentences so far. */
    private static final List<String[]> TESTED = new ArrayList<>();

    private Due() {
    }

    static void is(String what, long want, long got) {
        asked++;
        if (got != want) {
            wrong++;
            System.out.println(sentence + what + " answered " + got + ", due is " + want);
        }
    }

    /** From now on this sentence of the document is tested, told by the heading that it stands under. */
    static void sentence(String heading, String words) {
        sentence = "[" + heading + ": " + words + "] ";
        TESTED.add(new String[] {heading, words});
    }

    /** What a test throws is an answer that is not as due, and the tests behind it are run all the same. */
    static void each(Runnable... tests) {
        for (Runnable test : tests) {
            try {
                test.run();
            } catch (RuntimeException thrown) {
                wrong++;
                System.out.println(sentence + "threw " + thrown + " at " + thrown.getStackTrace()[0]);
            }
        }
    }

    static List<String[]> tested() {
        return TESTED;
    }

    static void end() {
        System.out.println(asked + " answers, " + wrong + " not as due");
        if (wrong != 0) {
            System.exit(1);
        }
    }

    static void feed(TideDebts x, byte[] bytes) {
        for (int i = 0; i < bytes.length; i += 8) {
            int n = Math.min(8, bytes.length - i);
            long w = 0;
            for (int b = 0; b < n; b++) {
                w = w << 8 | bytes[i + b] & 255;
            }
            x.feed(w, n);
        }
    }

    static int bay(TideDebts x, String text) {
        feed(x, text.getBytes(StandardCharsets.ISO_8859_1));
        return x.bay();
    }

    static TideDebts made(String text) {
        TideDebts x = new TideDebts();
        if (bay(x, text) < 0) {
            throw new IllegalStateException("a test's own text has a fault: " + text);
        }
        return x;
    }

    /** All that calls can tell of a BAY, in one text: what must be alike where it may not have changed. */
    static String bayOf(TideDebts x) {
        StringBuilder s = new StringBuilder();
        int waters = x.count(1);
        s.append(waters).append(" waters, HOUR ").append(x.count(2)).append('|');
        for (int w = 0; w < waters; w++) {
            s.append(x.kind(w)).append(':');
            for (int what = 0; what < 4; what++) {
                s.append(x.water(w, what)).append(' ');
            }
            for (int to = 0; to < waters; to++) {
                s.append(x.owes(w, to)).append(' ');
            }
            s.append(x.ahead(w, 7, 0)).append('|');
        }
        return s.toString();
    }

    /** The same of the whole object, but for its ROWS' ITEMS, IMAGES and status. */
    static String all(TideDebts x) {
        StringBuilder s = new StringBuilder(bayOf(x));
        for (int c = 0; c <= 6; c++) {
            s.append(x.count(c)).append(' ');
        }
        s.append(x.fault()).append('|');
        for (int i = 0; i < 16; i++) {
            s.append(x.trace(i)).append(' ');
        }
        return s.toString();
    }

    static void same(String what, String want, String got) {
        asked++;
        if (!want.equals(got)) {
            wrong++;
            System.out.println(sentence + what + ": was " + want + ", is " + got);
        }
    }
}
