/** Promises 2 to 5 and 30: ROWS and what is found of them. */
public final class RowsTest {
    private static final int BAD = TideDebts.BAD;
    private static final int NULL = -1000011, PLACE = -1000012, KIND = -1000013, SIZE = -1000014, STORE = -1000015;

    public static void main(String[] args) {
        makesRows();
        setsLowestBits();
        copies();
        copiesWithinOneRow();
        refusesCopies();
        drops();
        tellsStatus();
        Due.end();
    }

    private static void makesRows() {
        TideDebts x = new TideDebts();
        Due.is("empty row", 0, x.row(0, 0, 0));
        Due.is("longest row", 40, x.row(7, 2, 40));
        Due.is("rows", 2, x.count(0));
        Due.is("row 8", BAD, x.row(8, 0, 1));
        Due.is("row -1", BAD, x.row(-1, 0, 1));
        Due.is("lane 3", BAD, x.row(1, 3, 1));
        Due.is("lane -1", BAD, x.row(1, -1, 1));
        Due.is("lane 4", BAD, x.row(1, 4, 1));
        Due.is("largest lane", BAD, x.row(1, Integer.MAX_VALUE, 1));
        Due.is("largest row", BAD, x.row(Integer.MAX_VALUE, 0, 1));
        Due.is("41 items", BAD, x.row(1, 0, 41));
        Due.is("largest n", BAD, x.row(1, 0, Integer.MAX_VALUE));
        Due.is("fewer than none", SIZE, x.row(1, 0, -1));
        Due.is("least n", SIZE, x.row(1, 0, Integer.MIN_VALUE));
        Due.is("BAD comes ahead of SIZE: row", BAD, x.row(8, 0, -1));
        Due.is("BAD comes ahead of SIZE: lane", BAD, x.row(0, 3, -1));
        Due.is("refused rows are not there", 2, x.count(0));
        Due.is("a row again", 3, x.row(7, 0, 3));
        Due.is("its place 3 is gone", PLACE, x.set(7, 3, 1));
        Due.is("a refused row leaves the old one", SIZE, x.row(7, 0, -5));
        Due.is("place 2 is there yet", 9, x.set(7, 2, 9));
    }

    private static void setsLowestBits() {
        TideDebts x = new TideDebts();
        x.row(0, 0, 2);
        x.row(1, 1, 2);
        x.row(2, 2, 2);
        Due.is("byte 127", 127, x.set(0, 0, 127));
        Due.is("byte 128", -128, x.set(0, 0, 128));
        Due.is("byte -129", 127, x.set(0, 0, -129));
        Due.is("byte 256", 0, x.set(0, 1, 256));
        Due.is("short 32768", -32768, x.set(1, 0, 32768));
        Due.is("short 65535", -1, x.set(1, 1, 65535));
        Due.is("short 300", 300, x.set(1, 1, 300));
        Due.is("int largest", Integer.MAX_VALUE, x.set(2, 0, Integer.MAX_VALUE));
        Due.is("int 65536", 65536, x.set(2, 1, 65536));
        Due.is("row 8", BAD, x.set(8, 0, 0));
        Due.is("row -1", BAD, x.set(-1, 0, 0));
        Due.is("missing", NULL, x.set(3, -1, 0));
        Due.is("place 2", PLACE, x.set(0, 2, 0));
        Due.is("place -1", PLACE, x.set(0, -1, 0));
        Due.is("largest place", PLACE, x.set(0, Integer.MAX_VALUE, 0));
    }

    /** An item can only be told by frauds, so the copies are told to a bay of dykes, whose DEPTH stays. */
    private static int sameAsDepths(TideDebts x, int row, int... depths) {
        StringBuilder s = new StringBuilder(Due.NEAP);
        for (int d : depths) {
            s.append("water dyke ").append(d).append(" 0;");
        }
        Due.bay(x, s.toString());
        return x.frauds(row, 0);
    }

    private static void copies() {
        TideDebts x = new TideDebts();
        x.row(0, 1, 3);
        x.row(1, 1, 4);
        for (int i = 0; i < 3; i++) {
            x.set(0, i, 10 + i);
        }
        Due.is("two items", 2, x.copy(0, 1, 1, 2, 2));
        Due.is("they came", 0, sameAsDepths(x, 1, 0, 0, 11, 12));
        Due.is("the first row is as it was", 0, sameAsDepths(x, 0, 10, 11, 12));
        Due.is("no item at the end", 0, x.copy(0, 3, 1, 4, 0));
        Due.is("all", 3, x.copy(0, 0, 1, 0, 3));
        Due.is("all came", 0, sameAsDepths(x, 1, 10, 11, 12, 12));
        x.row(0, 1, 3);
        Due.is("a row that is made again is empty", 0, sameAsDepths(x, 0, 0, 0, 0));
    }

    private static void copiesWithinOneRow() {
        TideDebts x = new TideDebts();
        x.row(0, 2, 5);
        for (int i = 0; i < 5; i++) {
            x.set(0, i, i + 1);
        }
        Due.is("upwards", 4, x.copy(0, 0, 0, 1, 4));
        Due.is("as they were ahead", 0, sameAsDepths(x, 0, 1, 1, 2, 3, 4));
        Due.is("downwards", 3, x.copy(0, 2, 0, 0, 3));
        Due.is("as they were ahead, too", 0, sameAsDepths(x, 0, 2, 3, 4, 3, 4));
    }

    private static void refusesCopies() {
        TideDebts x = new TideDebts();
        x.row(0, 0, 3);
        x.row(1, 0, 4);
        x.row(2, 1, 4);
        Due.is("row 8", BAD, x.copy(8, 0, 0, 0, 0));
        Due.is("to row 8", BAD, x.copy(3, 0, 8, 0, 0));
        Due.is("from a missing one", NULL, x.copy(3, -1, 0, 0, 0));
        Due.is("to a missing one", NULL, x.copy(0, -1, 3, 0, 0));
        Due.is("two lanes, ahead of PLACE", STORE, x.copy(0, -1, 2, 0, 0));
        Due.is("two lanes, no item", STORE, x.copy(0, 0, 2, 0, 0));
        Due.is("i below 0", PLACE, x.copy(0, -1, 1, 0, 1));
        Due.is("j below 0", PLACE, x.copy(0, 0, 1, -1, 1));
        Due.is("n below 0", PLACE, x.copy(0, 0, 1, 0, -1));
        Due.is("beyond the end of a", PLACE, x.copy(0, 1, 1, 0, 3));
        Due.is("beyond the end of b", PLACE, x.copy(0, 0, 1, 2, 3));
        Due.is("i beyond the end", PLACE, x.copy(0, 4, 1, 0, 0));
        Due.is("j beyond the end", PLACE, x.copy(0, 0, 1, 5, 0));
        Due.is("i and n wrap around", PLACE, x.copy(0, Integer.MAX_VALUE, 1, 0, 2));
        Due.is("largest n", PLACE, x.copy(0, 1, 1, 1, Integer.MAX_VALUE));
        Due.is("least n", PLACE, x.copy(0, 1, 1, 1, Integer.MIN_VALUE));
    }

    private static void drops() {
        TideDebts x = new TideDebts();
        x.row(0, 0, 7);
        Due.is("drop", 7, x.drop(0));
        Due.is("rows", 0, x.count(0));
        Due.is("again", NULL, x.drop(0));
        Due.is("set", NULL, x.set(0, 0, 1));
        Due.is("row 8", BAD, x.drop(8));
        Due.is("row -1", BAD, x.drop(-1));
        x.row(0, 0, 0);
        Due.is("an empty row is one", 0, x.drop(0));
    }

    private static void tellsStatus() {
        TideDebts x = new TideDebts();
        Due.is("none yet", 0, x.status());
        x.set(0, 0, 0);
        Due.is("NULL", 1, x.status());
        x.row(8, 0, 0);
        x.set(8, 0, 0);
        x.copy(8, 0, 0, 0, 0);
        x.drop(8);
        x.as(0, 0);
        x.frauds(0, 0);
        x.hours(1);
        x.feed(0, 1);
        x.bay();
        x.count(0);
        Due.is("BAD, STATE and calls without a row leave it", 1, x.status());
        x.row(0, 0, 2);
        Due.is("row", 0, x.status());
        x.set(0, 2, 0);
        Due.is("PLACE", 2, x.status());
        x.set(0, 1, 0);
        Due.is("set", 0, x.status());
        x.row(0, 0, -1);
        Due.is("SIZE", 4, x.status());
        x.copy(0, 0, 0, 0, 1);
        Due.is("copy", 0, x.status());
        x.row(1, 1, 2);
        x.copy(0, 0, 1, 0, 1);
        Due.is("STORE", 5, x.status());
        x.drop(1);
        Due.is("drop", 0, x.status());
        Due.bay(x, Due.NEAP + "water cove 9 0;water well 8 0;");
        Due.is("as", KIND, x.as(0, 2));
        Due.is("KIND", 3, x.status());
        x.as(0, 1);
        Due.is("as", 0, x.status());
        x.as(0, 2);
        Due.is("BAD as", BAD, x.as(0, 6));
        Due.is("BAD as leaves it", 3, x.status());
        x.frauds(0, 0);
        Due.is("frauds", 0, x.status());
        x.frauds(0, 1);
        Due.is("frauds, PLACE", 2, x.status());
        x.set(0, 0, -1);
        x.drop(5);
        Due.is("an item below 0", BAD, x.frauds(0, 0));
        Due.is("frauds, BAD, leaves it", 1, x.status());
    }
}
