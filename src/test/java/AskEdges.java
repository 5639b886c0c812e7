/** The sentences of "KINDS", "4 ASKS" and of promises 25 to 28 that name an edge, a method each. */
final class AskEdges {
    private static final int NONE = TideDebts.NONE, BAD = TideDebts.BAD, KIND = -1000013;
    private static final int LEAST = Integer.MIN_VALUE, MOST = Integer.MAX_VALUE;
    private static final int[] NO_WATERS = {-1, 5, 6, LEAST, MOST};
    private static final String FIVE =
        "water lagoon 9 3;water pool 20 15;water cove 12 4;water dyke 50 1;water well 30 7;";

    private AskEdges() {
    }

    static void all() {
        Due.each(
            AskEdges::kindsAre1To5, AskEdges::kindOfNoSuchWater, AskEdges::eachIsOfItsKinds,
            AskEdges::asOfNoSuchThing, AskEdges::asOfAnotherKind, AskEdges::theNearestKindAnswers, AskEdges::theTraceHas16AtMost,
            AskEdges::asksOfNothing, AskEdges::askOfNoSuchThing, AskEdges::theTraceIsEmptyAhead,
            AskEdges::theTraceAtFirst, AskEdges::theTraceEnds);
    }

    private static void kindsAre1To5() {
        Due.sentence("Promise 25", "as told (1 to 5)");
        TideDebts x = Due.made(Due.NEAP + FIVE + "water dyke 0 0;");
        int[] due = {2, 3, 1, 4, 5, 4};
        for (int w = 0; w < 6; w++) {
            Due.is("kind of " + w, due[w], x.kind(w));
        }
    }

    private static void kindOfNoSuchWater() {
        Due.sentence("Promise 25", "BAD");
        TideDebts x = Due.made(Due.NEAP + FIVE);
        for (int w : NO_WATERS) {
            Due.is("kind of " + w, BAD, x.kind(w));
        }
        Due.is("without a bay", BAD, new TideDebts().kind(0));
        Due.is("without waters", BAD, Due.made(Due.NEAP).kind(0));
    }

    private static void eachIsOfItsKinds() {
        Due.sentence("KINDS", "0 WATER; 1 COVE, a WATER; 2 LAGOON, a COVE; 3 POOL, a COVE; 4 DYKE, a WATER; 5 WELL, a DYKE");
        TideDebts x = Due.made(Due.NEAP + FIVE);
        String[] kinds = {"012", "013", "01", "04", "045"};
        for (int w = 0; w < 5; w++) {
            for (int k = 0; k <= 5; k++) {
                Due.is(w + " as " + k, kinds[w].indexOf('0' + k) >= 0 ? w : KIND, x.as(w, k));
            }
        }
    }

    private static void asOfNoSuchThing() {
        Due.sentence("Promise 26", "(0 .. 5): its number. BAD");
        TideDebts x = Due.made(Due.NEAP + FIVE);
        for (int w : NO_WATERS) {
            Due.is("water " + w, BAD, x.as(w, 0));
        }
        for (int k : new int[] {-1, 6, LEAST, MOST}) {
            Due.is("kind " + k, BAD, x.as(0, k));
        }
        Due.is("water 4 as 0", 4, x.as(4, 0));
        Due.is("water 4 as 5", 4, x.as(4, 5));
        Due.is("without a bay", BAD, new TideDebts().as(0, 0));
    }

    private static void asOfAnotherKind() {
        Due.sentence("Promise 26", "KIND: it is no such one");
        TideDebts x = Due.made(Due.NEAP + FIVE);
        Due.is("a lagoon as a pool", KIND, x.as(0, 3));
        Due.is("status", 3, x.status());
        Due.is("a cove as a lagoon", KIND, x.as(2, 2));
        Due.is("a dyke as a well", KIND, x.as(3, 5));
        Due.is("a well as a cove", KIND, x.as(4, 1));
        Due.is("a well as a well", 4, x.as(4, 5));
        Due.is("status", 0, x.status());
    }

    private static void asked(TideDebts x, int water, int what, int answer, int... trace) {
        String name = "ask(" + water + ", " + what + ")";
        Due.is(name, answer, x.ask(water, what));
        for (int i = 0; i < 17; i++) {
            Due.is("trace " + i + " of " + name, i < trace.length ? trace[i] : NONE, x.trace(i));
        }
    }

    private static void theNearestKindAnswers() {
        Due.sentence("4 ASKS", "the BODY told for the KIND begins, else that of the nearest KIND that it is, too, else the one that is lent");
        TideDebts x = Due.made(Due.NEAP + FIVE);
        asked(x, 0, 0, -(9 + 2 * (0 + 3)), 12, 11, 10, 24, 21, 20);
        asked(x, 1, 0, 20 + 1 + 15 - 1000, 11, 10, 22, 21, 20);
        asked(x, 2, 0, 12 + 2 + 4, 11, 10, 21, 20);
        asked(x, 3, 0, 50 - 100, 13, 10);
        asked(x, 4, 0, 2 * (30 - 100), 14, 13, 10);
        asked(x, 0, 1, 2 * (0 + 3), 24, 21, 20);
        asked(x, 1, 1, 1 + 15 - 1000, 22, 21, 20);
        asked(x, 2, 1, 2 + 4, 21, 20);
        asked(x, 3, 1, 3 - (50 - 100), 23, 20, 13, 10);
        asked(x, 4, 1, 4 - 2 * (30 - 100), 23, 20, 14, 13, 10);
    }

    private static void asksOfNothing() {
        Due.sentence("4 ASKS", "SIZE, MARK within others are asked of the same WATER anew");
        TideDebts x = Due.made(Due.SPRING
            + "water lagoon 0 0;water pool 0 0;water cove 0 0;water dyke 0 0;water well 0 0;water cove 200 40;");
        int[] sizes = {0, 1 - 1000, 2, -100, -200, 245};
        int[] marks = {0, 1 - 1000, 2, 103, 204, 45};
        for (int w = 0; w < 6; w++) {
            Due.is("SIZE of " + w, sizes[w], x.ask(w, 0));
            Due.is("MARK of " + w, marks[w], x.ask(w, 1));
        }
        x.lend(5, 4, 150);
        Due.is("SIZE of a well that has 150", 100, x.ask(4, 0));
        Due.is("MARK of a well that has 150", -96, x.ask(4, 1));
        x.hours(1);
        Due.is("SIZE of a cove behind an ebb", 55, x.ask(5, 0));
    }

    private static void theTraceHas16AtMost() {
        Due.sentence("4 ASKS", "each of which leaves its number in THE TRACE as it begins (the first 16)");
        TideDebts x = Due.made(Due.NEAP + FIVE);
        for (int w = 0; w < 5; w++) {
            for (int what = 0; what < 2; what++) {
                x.ask(w, what);
                int left = 0;
                while (left < 17 && x.trace(left) != NONE) {
                    Due.is("body " + left + " is one of both asks", 1, isBody(x.trace(left)) ? 1 : 0);
                    left++;
                }
                Due.is("some, and not so many", 1, left >= 2 && left <= 6 ? 1 : 0);
                Due.is("trace 15", NONE, x.trace(15));
                Due.is("trace 16", NONE, x.trace(16));
            }
        }
    }

    private static boolean isBody(int number) {
        return number >= 10 && number <= 14 || number >= 20 && number <= 24;
    }

    private static void askOfNoSuchThing() {
        Due.sentence("Promise 27", "An ASK (0, 1) of a WATER. BAD");
        TideDebts x = Due.made(Due.NEAP + FIVE);
        x.ask(3, 0);
        for (int w : NO_WATERS) {
            Due.is("SIZE of " + w, BAD, x.ask(w, 0));
            Due.is("MARK of " + w, BAD, x.ask(w, 1));
        }
        for (int what : new int[] {-1, 2, LEAST, MOST}) {
            Due.is("what " + what, BAD, x.ask(0, what));
        }
        Due.is("the trace stays", 13, x.trace(0));
        Due.is("the trace stays", 10, x.trace(1));
        Due.is("the trace stays", NONE, x.trace(2));
        Due.is("without a bay", BAD, new TideDebts().ask(0, 0));
    }

    private static void theTraceIsEmptyAhead() {
        Due.sentence("Promise 27", "THE TRACE is empty ahead of it");
        TideDebts x = Due.made(Due.NEAP + FIVE);
        asked(x, 0, 0, -15, 12, 11, 10, 24, 21, 20);
        asked(x, 2, 1, 6, 21, 20);
        asked(x, 2, 1, 6, 21, 20);
        for (int i = 0; i < 10; i++) {
            x.ask(0, 0);
        }
        asked(x, 3, 0, -50, 13, 10);
    }

    private static void theTraceAtFirst() {
        Due.sentence("Promise 28", "NONE");
        TideDebts x = new TideDebts();
        for (int i : new int[] {0, 1, 15, 16, -1, LEAST, MOST}) {
            Due.is("trace " + i, NONE, x.trace(i));
        }
        Due.bay(x, Due.NEAP + FIVE);
        Due.is("of a bay", NONE, x.trace(0));
    }

    private static void theTraceEnds() {
        Due.sentence("Promise 28", "Number i of THE TRACE");
        TideDebts x = Due.made(Due.NEAP + FIVE);
        x.ask(0, 0);
        Due.is("the first", 12, x.trace(0));
        Due.is("the last", 20, x.trace(5));
        for (int i : new int[] {6, 15, 16, -1, LEAST, MOST}) {
            Due.is("trace " + i, NONE, x.trace(i));
        }
    }
}
