/** Promises 25 to 28: KINDS, and ASKS with THE TRACE that they leave. */
public final class AsksTest {
    private static final int NONE = TideDebts.NONE, BAD = TideDebts.BAD, KIND = -1000013;

    public static void main(String[] args) {
        kinds();
        asks();
        asksAfterActs();
        refusedAsksKeepTheTrace();
        Due.end();
    }

    private static TideDebts five() {
        return Due.made(Due.TIDE + "water lagoon 9 3;" + "water pool 20 15;water cove 12 4;water dyke 50 1;water well 30 7;");
    }

    private static void kinds() {
        TideDebts x = five();
        int[] kinds = {2, 3, 1, 4, 5};
        String[] isOne = {"012", "013", "01", "04", "045"};
        for (int w = 0; w < 5; w++) {
            Due.is("kind of " + w, kinds[w], x.kind(w));
            for (int k = 0; k <= 5; k++) {
                Due.is(w + " as " + k, isOne[w].indexOf('0' + k) >= 0 ? w : KIND, x.as(w, k));
            }
        }
        Due.is("kind of 5", BAD, x.kind(5));
        Due.is("kind of -1", BAD, x.kind(-1));
        Due.is("as 6", BAD, x.as(0, 6));
        Due.is("as -1", BAD, x.as(0, -1));
        Due.is("as 7", BAD, x.as(0, 7));
        Due.is("as the largest", BAD, x.as(0, Integer.MAX_VALUE));
        Due.is("5 as", BAD, x.as(5, 0));
        Due.is("-1 as", BAD, x.as(-1, 0));
    }

    private static void asked(TideDebts x, int water, int what, int answer, int... trace) {
        String name = "ask(" + water + ", " + what + ")";
        Due.is(name, answer, x.ask(water, what));
        for (int i = 0; i < 20; i++) {
            Due.is("trace " + i + " of " + name, i < trace.length ? trace[i] : NONE, x.trace(i));
        }
        Due.is("trace -1", NONE, x.trace(-1));
        Due.is("least trace", NONE, x.trace(Integer.MIN_VALUE));
        Due.is("largest trace", NONE, x.trace(Integer.MAX_VALUE));
    }

    private static void asks() {
        TideDebts x = five();
        asked(x, 0, 0, -(9 + 2 * (0 + 3)), 12, 11, 10, 24, 21, 20);
        asked(x, 0, 1, 2 * (0 + 3), 24, 21, 20);
        asked(x, 1, 0, 20 + 1 + 15 - 1000, 11, 10, 22, 21, 20);
        asked(x, 1, 1, 1 + 15 - 1000, 22, 21, 20);
        asked(x, 2, 0, 12 + 2 + 4, 11, 10, 21, 20);
        asked(x, 2, 1, 2 + 4, 21, 20);
        asked(x, 3, 0, 50 - 100, 13, 10);
        asked(x, 3, 1, 3 - (50 - 100), 23, 20, 13, 10);
        asked(x, 4, 0, 2 * (30 - 100), 14, 13, 10);
        asked(x, 4, 1, 4 - 2 * (30 - 100), 23, 20, 14, 13, 10);
    }

    private static void asksAfterActs() {
        TideDebts x = five();
        x.lend(3, 2, 10);
        asked(x, 2, 0, 22 + 6, 11, 10, 21, 20);
        asked(x, 3, 0, 40 - 100, 13, 10);
        Due.bay(x, Due.NEAP);
        Due.is("a new bay leaves the trace", 13, x.trace(0));
    }

    private static void refusedAsksKeepTheTrace() {
        TideDebts x = five();
        x.ask(3, 0);
        Due.is("what 2", BAD, x.ask(0, 2));
        Due.is("what -1", BAD, x.ask(0, -1));
        Due.is("water 5", BAD, x.ask(5, 0));
        Due.is("water -1", BAD, x.ask(-1, 0));
        Due.is("the trace of the one before", 13, x.trace(0));
        Due.is("its second", 10, x.trace(1));
        Due.is("its end", NONE, x.trace(2));
    }
}
