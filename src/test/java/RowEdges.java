/** The sentences of "1 ROWS" and of promises 2 to 5 and 30 that name an edge, a method each. */
final class RowEdges {
    private static final int BAD = TideDebts.BAD, STATE = TideDebts.STATE, FULL = TideDebts.FULL;
    private static final int NULL = -1000011, PLACE = -1000012, KIND = -1000013, SIZE = -1000014, STORE = -1000015;
    private static final int LEAST = Integer.MIN_VALUE, MOST = Integer.MAX_VALUE;
    private static final int[] NO_ROWS = {-1, 8, LEAST, MOST};

    private RowEdges() {
    }

    static void all() {
        Due.each(
            RowEdges::rowsAreMissingAtFirst, RowEdges::thereAreEightRows, RowEdges::thereAreThreeLanes,
            RowEdges::aRowHasUpTo40Items, RowEdges::itemsAreNoneAtFirst, RowEdges::aRowComesInPlaceOfAnother,
            RowEdges::rowOfNoSuchNumber, RowEdges::rowOfNoSuchLane, RowEdges::rowOfTooManyItems,
            RowEdges::rowOfFewerItemsThanNone, RowEdges::setKeepsLowestBits, RowEdges::setOfNoSuchRow,
            RowEdges::setOfMissingRow, RowEdges::setOfNoSuchPlace, RowEdges::copyAsTheyWereAhead,
            RowEdges::copyOfNoItems, RowEdges::copyOfNoSuchRows, RowEdges::copyOfMissingRows,
            RowEdges::copyOfTwoLanes, RowEdges::copyOfPlacesBelow0, RowEdges::copyBeyondAnEnd,
            RowEdges::dropTellsHowMany, RowEdges::dropOfNoSuchRow, RowEdges::dropOfMissingRow,
            RowEdges::statusAtFirst, RowEdges::statusOfEachFinding, RowEdges::statusOfACallWithoutFinding,
            RowEdges::statusPassesByRefusals, RowEdges::statusPassesByOtherCalls);
    }

    /** Whether the ITEMS from i on are these (0 to 200, six at most): told to a BAY of dykes, whose DEPTH stays. */
    private static void itemsAre(TideDebts x, int row, int i, int... due) {
        StringBuilder text = new StringBuilder(Due.NEAP);
        for (int d : due) {
            text.append("water dyke ").append(d).append(" 0;");
        }
        Due.bay(x, text.toString());
        Due.is("items of row " + row + " from " + i + " on that are others", 0, x.frauds(row, i));
    }

    private static TideDebts counting(int row, int lane, int n) {
        TideDebts x = new TideDebts();
        x.row(row, lane, n);
        for (int i = 0; i < n; i++) {
            x.set(row, i, i + 1);
        }
        return x;
    }

    private static void rowsAreMissingAtFirst() {
        Due.sentence("1 ROWS", "ROWS 0 .. 7 are missing (at first)");
        TideDebts x = new TideDebts();
        Due.is("rows", 0, x.count(0));
        for (int r = 0; r < 8; r++) {
            Due.is("set of row " + r, NULL, x.set(r, 0, 0));
            Due.is("drop of row " + r, NULL, x.drop(r));
            Due.is("copy of row " + r, NULL, x.copy(r, 0, r, 0, 0));
        }
    }

    private static void thereAreEightRows() {
        Due.sentence("1 ROWS", "ROWS 0 .. 7");
        TideDebts x = new TideDebts();
        for (int r = 0; r < 8; r++) {
            Due.is("row " + r, 1, x.row(r, 0, 1));
            Due.is("rows", r + 1, x.count(0));
        }
        for (int r = 0; r < 8; r++) {
            Due.is("set of row " + r, r + 10, x.set(r, 0, r + 10));
        }
        for (int r = 0; r < 8; r++) {
            itemsAre(x, r, 0, r + 10);
        }
        for (int r : NO_ROWS) {
            Due.is("row " + r, BAD, x.row(r, 0, 1));
        }
        Due.is("rows", 8, x.count(0));
    }

    private static void thereAreThreeLanes() {
        Due.sentence("1 ROWS", "a LANE (0 bytes, 1 shorts, 2 ints)");
        TideDebts x = new TideDebts();
        int[] kept = {0x78, 0x5678, 0x12345678};
        for (int lane = 0; lane < 3; lane++) {
            Due.is("row of lane " + lane, 1, x.row(0, lane, 1));
            Due.is("what lane " + lane + " keeps", kept[lane], x.set(0, 0, 0x12345678));
        }
    }

    private static void aRowHasUpTo40Items() {
        Due.sentence("1 ROWS", "0 to 40 ITEMS");
        TideDebts x = new TideDebts();
        for (int lane = 0; lane < 3; lane++) {
            Due.is("no item", 0, x.row(lane, lane, 0));
            Due.is("it is a row", lane + 1, x.count(0));
            Due.is("no place 0", PLACE, x.set(lane, 0, 1));
            Due.is("one item", 1, x.row(lane, lane, 1));
            Due.is("place 0", 1, x.set(lane, 0, 1));
            Due.is("no place 1", PLACE, x.set(lane, 1, 1));
            Due.is("40 items", 40, x.row(lane, lane, 40));
            Due.is("place 39", 1, x.set(lane, 39, 1));
            Due.is("no place 40", PLACE, x.set(lane, 40, 1));
        }
    }

    private static void itemsAreNoneAtFirst() {
        Due.sentence("1 ROWS", "0 at first");
        TideDebts x = new TideDebts();
        x.row(0, 2, 40);
        for (int i = 0; i <= 30; i += 6) {
            itemsAre(x, 0, i, 0, 0, 0, 0, 0, 0);
        }
        itemsAre(x, 0, 36, 0, 0, 0, 0);
    }

    private static void aRowComesInPlaceOfAnother() {
        Due.sentence("Promise 2", "in place of what is there");
        TideDebts x = counting(3, 0, 6);
        Due.is("a shorter row of another lane", 4, x.row(3, 1, 4));
        itemsAre(x, 3, 0, 0, 0, 0, 0);
        Due.is("its last place", 300, x.set(3, 3, 300));
        Due.is("places that it had", PLACE, x.set(3, 4, 1));
        Due.is("one row", 1, x.count(0));
        Due.is("a longer row", 6, x.row(3, 1, 6));
        itemsAre(x, 3, 0, 0, 0, 0, 0, 0, 0);
        Due.is("a row that was dropped, again", 6, x.drop(3));
        Due.is("a row in its place", 5, x.row(3, 0, 5));
        itemsAre(x, 3, 0, 0, 0, 0, 0, 0);
    }

    private static void rowOfNoSuchNumber() {
        Due.sentence("Promise 2", "BAD: ROW");
        TideDebts x = new TideDebts();
        for (int r : NO_ROWS) {
            Due.is("row " + r, BAD, x.row(r, 0, 1));
            Due.is("row " + r + " of fewer items than none", BAD, x.row(r, 0, -1));
        }
        Due.is("rows", 0, x.count(0));
    }

    private static void rowOfNoSuchLane() {
        Due.sentence("Promise 2", "BAD: ROW, LANE");
        TideDebts x = new TideDebts();
        for (int lane : new int[] {-1, 3, LEAST, MOST}) {
            Due.is("lane " + lane, BAD, x.row(0, lane, 1));
            Due.is("lane " + lane + " of fewer items than none", BAD, x.row(0, lane, -1));
        }
        Due.is("rows", 0, x.count(0));
    }

    private static void rowOfTooManyItems() {
        Due.sentence("Promise 2", "n above 40");
        TideDebts x = new TideDebts();
        Due.is("40", 40, x.row(1, 0, 40));
        Due.is("41", BAD, x.row(0, 0, 41));
        Due.is("the most", BAD, x.row(0, 0, MOST));
        Due.is("rows", 1, x.count(0));
    }

    private static void rowOfFewerItemsThanNone() {
        Due.sentence("Promise 2", "SIZE");
        TideDebts x = counting(0, 0, 3);
        Due.is("-1", SIZE, x.row(0, 0, -1));
        Due.is("the least", SIZE, x.row(0, 2, LEAST));
        Due.is("of a missing row", SIZE, x.row(1, 0, -1));
        Due.is("rows", 1, x.count(0));
        itemsAre(x, 0, 0, 1, 2, 3);
    }

    private static void setKeepsLowestBits() {
        Due.sentence("Promise 3", "its lowest bits, as many as the LANE has: what it is then");
        TideDebts x = new TideDebts();
        int[][] due = {
            {0, 127, 127}, {0, 128, -128}, {0, 255, -1}, {0, 256, 0}, {0, 257, 1}, {0, -128, -128}, {0, -129, 127},
            {0, MOST, -1}, {0, LEAST, 0},
            {1, 32767, 32767}, {1, 32768, -32768}, {1, 65535, -1}, {1, 65536, 0}, {1, -32768, -32768},
            {1, -32769, 32767}, {1, MOST, -1}, {1, LEAST, 0},
            {2, 65536, 65536}, {2, MOST, MOST}, {2, LEAST, LEAST}, {2, -1, -1}};
        for (int[] d : due) {
            x.row(0, d[0], 1);
            Due.is("set of " + d[1] + " in lane " + d[0], d[2], x.set(0, 0, d[1]));
        }
        x.row(1, 0, 1);
        x.set(1, 0, 256 + 77);
        itemsAre(x, 1, 0, 77);
        x.row(1, 1, 1);
        x.set(1, 0, 65536 + 77);
        itemsAre(x, 1, 0, 77);
        x.row(1, 2, 2);
        x.set(1, 0, 65536 + 77);
        Due.bay(x, Due.NEAP + "water dyke 77 0;");
        Due.is("an int is the whole of it", 1, x.frauds(1, 0));
    }

    private static void setOfNoSuchRow() {
        Due.sentence("Promise 3", "BAD: ROW");
        TideDebts x = new TideDebts();
        for (int r : NO_ROWS) {
            Due.is("row " + r, BAD, x.set(r, 0, 1));
        }
    }

    private static void setOfMissingRow() {
        Due.sentence("Promise 3", "NULL");
        TideDebts x = counting(0, 0, 3);
        Due.is("row 1", NULL, x.set(1, 0, 1));
        Due.is("row 1, a place that no row has", NULL, x.set(1, -1, 1));
        x.drop(0);
        Due.is("row 0, dropped", NULL, x.set(0, 0, 1));
    }

    private static void setOfNoSuchPlace() {
        Due.sentence("Promise 3", "PLACE");
        TideDebts x = counting(0, 0, 3);
        for (int i : new int[] {-1, 3, 4, 40, LEAST, MOST}) {
            Due.is("place " + i, PLACE, x.set(0, i, 9));
        }
        itemsAre(x, 0, 0, 1, 2, 3);
    }

    private static void copyAsTheyWereAhead() {
        Due.sentence("Promise 4", "as they were ahead");
        TideDebts x = counting(0, 0, 6);
        Due.is("upwards, over themselves", 4, x.copy(0, 0, 0, 2, 4));
        itemsAre(x, 0, 0, 1, 2, 1, 2, 3, 4);
        x = counting(0, 1, 6);
        Due.is("downwards, over themselves", 4, x.copy(0, 2, 0, 0, 4));
        itemsAre(x, 0, 0, 3, 4, 5, 6, 5, 6);
        x = counting(0, 2, 6);
        Due.is("on their own places", 6, x.copy(0, 0, 0, 0, 6));
        itemsAre(x, 0, 0, 1, 2, 3, 4, 5, 6);
    }

    private static void copyOfNoItems() {
        Due.sentence("Promise 4", "n ITEMS of a from i on come to b from j on");
        TideDebts x = counting(0, 0, 3);
        x.row(1, 0, 0);
        Due.is("none, at both ends", 0, x.copy(0, 3, 1, 0, 0));
        Due.is("none, within", 0, x.copy(0, 1, 0, 2, 0));
        Due.is("none, of an empty row", 0, x.copy(1, 0, 0, 3, 0));
        itemsAre(x, 0, 0, 1, 2, 3);
        x.row(1, 0, 40);
        Due.is("the last one to the last place", 1, x.copy(0, 2, 1, 39, 1));
        itemsAre(x, 1, 38, 0, 3);
        Due.is("one to place 0", 1, x.copy(0, 1, 1, 0, 1));
        itemsAre(x, 1, 0, 2, 0);
        x = counting(0, 0, 40);
        x.row(1, 0, 40);
        Due.is("all 40", 40, x.copy(0, 0, 1, 0, 40));
        itemsAre(x, 1, 34, 35, 36, 37, 38, 39, 40);
    }

    private static void copyOfNoSuchRows() {
        Due.sentence("Promise 4", "BAD: ROWS");
        TideDebts x = counting(0, 0, 3);
        for (int r : NO_ROWS) {
            Due.is("from " + r, BAD, x.copy(r, 0, 0, 0, 1));
            Due.is("to " + r, BAD, x.copy(0, 0, r, 0, 1));
            Due.is("from " + r + " to a missing one", BAD, x.copy(r, 0, 1, 0, 1));
            Due.is("from a missing one to " + r, BAD, x.copy(1, 0, r, 0, 1));
        }
    }

    private static void copyOfMissingRows() {
        Due.sentence("Promise 4", "NULL");
        TideDebts x = counting(0, 0, 3);
        Due.is("from a missing one", NULL, x.copy(1, 0, 0, 0, 1));
        Due.is("to a missing one", NULL, x.copy(0, 0, 1, 0, 1));
        Due.is("no item of a missing one", NULL, x.copy(1, 0, 1, 0, 0));
        Due.is("ahead of PLACE, from", NULL, x.copy(1, -1, 0, 9, -1));
        Due.is("ahead of PLACE, to", NULL, x.copy(0, -1, 1, 9, -1));
    }

    private static void copyOfTwoLanes() {
        Due.sentence("Promise 4", "STORE");
        TideDebts x = counting(0, 0, 3);
        x.row(1, 1, 3);
        x.row(2, 2, 3);
        for (int a = 0; a < 3; a++) {
            for (int b = 0; b < 3; b++) {
                Due.is("lane " + a + " to lane " + b, a == b ? 1 : STORE, x.copy(a, 0, b, 0, 1));
                Due.is("lane " + a + " to lane " + b + ", no place", a == b ? PLACE : STORE, x.copy(a, -1, b, 9, 1));
                Due.is("lane " + a + " to lane " + b + ", no item", a == b ? 0 : STORE, x.copy(a, 0, b, 0, 0));
            }
        }
    }

    private static void copyOfPlacesBelow0() {
        Due.sentence("Promise 4", "PLACE (i, j, n below 0");
        TideDebts x = counting(0, 0, 3);
        x.row(1, 0, 3);
        for (int below : new int[] {-1, LEAST}) {
            Due.is("i " + below, PLACE, x.copy(0, below, 1, 0, 1));
            Due.is("j " + below, PLACE, x.copy(0, 0, 1, below, 1));
            Due.is("n " + below, PLACE, x.copy(0, 1, 1, 1, below));
            Due.is("i " + below + ", no item", PLACE, x.copy(0, below, 1, 0, 0));
            Due.is("j " + below + ", no item", PLACE, x.copy(0, 0, 1, below, 0));
        }
        itemsAre(x, 1, 0, 0, 0, 0);
    }

    private static void copyBeyondAnEnd() {
        Due.sentence("Promise 4", "or beyond an end)");
        TideDebts x = counting(0, 0, 3);
        x.row(1, 0, 5);
        Due.is("a's end", PLACE, x.copy(0, 1, 1, 0, 3));
        Due.is("up to a's end", 2, x.copy(0, 1, 1, 0, 2));
        Due.is("b's end", PLACE, x.copy(0, 0, 1, 3, 3));
        Due.is("up to b's end", 3, x.copy(0, 0, 1, 2, 3));
        itemsAre(x, 1, 0, 2, 3, 1, 2, 3);
        Due.is("no item beyond a's end", PLACE, x.copy(0, 4, 1, 0, 0));
        Due.is("no item beyond b's end", PLACE, x.copy(0, 0, 1, 6, 0));
        Due.is("i and n wrap around", PLACE, x.copy(0, MOST, 1, 0, 1));
        Due.is("j and n wrap around", PLACE, x.copy(0, 0, 1, MOST, 1));
        Due.is("n wraps around", PLACE, x.copy(0, 1, 1, 1, MOST));
        Due.is("both wrap around", PLACE, x.copy(0, MOST, 1, MOST, MOST));
        itemsAre(x, 1, 0, 2, 3, 1, 2, 3);
    }

    private static void dropTellsHowMany() {
        Due.sentence("Promise 5", "how many ITEMS it had");
        TideDebts x = new TideDebts();
        x.row(0, 0, 0);
        x.row(7, 2, 40);
        Due.is("none", 0, x.drop(0));
        Due.is("rows", 1, x.count(0));
        Due.is("40", 40, x.drop(7));
        Due.is("rows", 0, x.count(0));
        Due.is("missing from now on", NULL, x.set(7, 0, 0));
    }

    private static void dropOfNoSuchRow() {
        Due.sentence("Promise 5", "BAD");
        TideDebts x = counting(0, 0, 3);
        for (int r : NO_ROWS) {
            Due.is("row " + r, BAD, x.drop(r));
        }
        Due.is("rows", 1, x.count(0));
    }

    private static void dropOfMissingRow() {
        Due.sentence("Promise 5", "NULL");
        TideDebts x = counting(0, 0, 3);
        Due.is("row 1", NULL, x.drop(1));
        Due.is("row 0", 3, x.drop(0));
        Due.is("row 0, dropped", NULL, x.drop(0));
    }

    private static void statusAtFirst() {
        Due.sentence("Promise 30", "or there was none");
        TideDebts x = new TideDebts();
        Due.is("a new object", 0, x.status());
        x.row(-1, 0, 0);
        x.frauds(0, 0);
        x.as(0, 0);
        Due.is("all so far were refused", 0, x.status());
    }

    private static void statusOfEachFinding() {
        Due.sentence("Promise 30", "the number of its FINDING");
        TideDebts x = Due.made(Due.NEAP + "water cove 9 0;");
        x.row(0, 0, 1);
        x.row(1, 1, 1);
        int[] found = {
            x.set(2, 0, 0), x.status(), x.copy(0, 0, 2, 0, 0), x.status(), x.drop(2), x.status(),
            x.frauds(2, 0), x.status(), x.set(0, 1, 0), x.status(), x.copy(0, 0, 0, 0, 2), x.status(),
            x.frauds(0, 1), x.status(), x.as(0, 4), x.status(), x.row(0, 0, -1), x.status(),
            x.copy(0, 0, 1, 0, 0), x.status()};
        int[] due = {1, 1, 1, 1, 2, 2, 2, 3, 4, 5};
        for (int i = 0; i < due.length; i++) {
            Due.is("finding " + i, -1000010 - due[i], found[2 * i]);
            Due.is("status of finding " + i, due[i], found[2 * i + 1]);
        }
    }

    private static void statusOfACallWithoutFinding() {
        Due.sentence("Promise 30", "0: it had none");
        TideDebts x = Due.made(Due.NEAP + "water dyke 0 0;");
        x.row(7, 0, 1);
        for (int call = 0; call < 6; call++) {
            x.set(6, 0, 0);
            Due.is("a finding ahead", 1, x.status());
            int answer = switch (call) {
                case 0 -> x.row(0, 0, 1);
                case 1 -> x.set(0, 0, 0);
                case 2 -> x.copy(0, 0, 0, 0, 1);
                case 3 -> x.frauds(0, 0);
                case 4 -> x.as(0, 4);
                default -> x.drop(7);
            };
            Due.is("call " + call + " is not refused", 1, answer >= 0 ? 1 : 0);
            Due.is("status behind call " + call, 0, x.status());
        }
    }

    private static void statusPassesByRefusals() {
        Due.sentence("Promise 30", "that was not BAD, STATE, FULL");
        TideDebts x = new TideDebts();
        x.row(0, 0, -1);
        Due.is("STATE: frauds without a bay", STATE, x.frauds(0, 0));
        Due.is("status", 4, x.status());
        Due.bay(x, Due.NEAP + "water cove 9 0;");
        x.row(0, 0, 1);
        x.set(0, 0, -1);
        Due.is("a finding", KIND, x.as(0, 5));
        int[] bad = {
            x.row(8, 0, 1), x.row(0, 3, 1), x.row(0, 0, 41), x.set(8, 0, 0), x.copy(8, 0, 0, 0, 0),
            x.copy(0, 0, 8, 0, 0), x.drop(8), x.frauds(8, 0), x.frauds(0, 0), x.as(1, 0), x.as(0, 6)};
        for (int answer : bad) {
            Due.is("a refused call", BAD, answer);
        }
        Due.is("status", 3, x.status());
        x.as(0, 1);
        x.as(0, 6);
        Due.is("status behind none", 0, x.status());
    }

    private static void statusPassesByOtherCalls() {
        Due.sentence("Promise 30", "Of the latest call with a ROW, or as()");
        TideDebts x = Due.made(Due.NEAP + "water cove 9 0;water dyke 9 0;");
        x.drop(0);
        x.feed(0, 1);
        x.bay();
        x.fault();
        x.hours(1);
        x.lend(0, 1, 1);
        x.pay(1, 0, 1);
        x.storm(1);
        x.settle();
        x.undo();
        x.water(0, 0);
        x.owes(0, 1);
        x.ahead(0, 1, 0);
        x.sail(0, 1, 1, 0);
        x.net(-1, 0);
        x.least(0, 1, 1, 1);
        x.run();
        x.image(0);
        x.restore(0);
        x.kind(0);
        x.ask(0, 0);
        x.trace(0);
        x.count(0);
        Due.is("status twice", 1, x.status());
        Due.is("status", 1, x.status());
        x.row(0, 0, 1);
        x.hours(0);
        x.ask(9, 9);
        Due.is("none behind them", 0, x.status());
        Due.is("FULL is no finding", FULL, fullTape(x));
        Due.is("nor is it told", 0, x.status());
    }

    private static int fullTape(TideDebts x) {
        for (int i = 0; i < 50; i++) {
            x.feed(0, 8);
        }
        return x.feed(0, 1);
    }
}
