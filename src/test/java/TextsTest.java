/** Promises 1, 6, 7 and 8: the tape, the BAY that is read of it, and FAULTS. */
public final class TextsTest {
    private static final int BAD = TideDebts.BAD, FULL = TideDebts.FULL;

    public static void main(String[] args) {
        newObjectHasNoBay();
        feeds();
        readsBays();
        tokensNeedNoBlanks();
        findsFaults();
        aFaultKeepsAll();
        aBayTakesThePlaceOfAnother();
        Due.end();
    }

    private static void newObjectHasNoBay() {
        TideDebts x = new TideDebts();
        for (int c = 0; c <= 6; c++) {
            Due.is("count " + c, 0, x.count(c));
        }
        Due.is("fault", 0, x.fault());
        Due.is("status", 0, x.status());
        Due.is("trace", TideDebts.NONE, x.trace(0));
        Due.is("hours", TideDebts.STATE, x.hours(0));
        Due.is("storm", TideDebts.STATE, x.storm(0));
        Due.is("settle", TideDebts.STATE, x.settle());
        Due.is("undo", TideDebts.STATE, x.undo());
        Due.is("net", TideDebts.STATE, x.net(-3, 9));
        Due.is("run", TideDebts.STATE, x.run());
        Due.is("frauds", TideDebts.STATE, x.frauds(9, 0));
        Due.is("image", TideDebts.STATE, x.image(0));
        Due.is("restore", TideDebts.STATE, x.restore(1));
        Due.is("water", BAD, x.water(0, 0));
        Due.is("kind", BAD, x.kind(0));
        Due.is("lend", BAD, x.lend(0, 1, 1));
        Due.is("pay", BAD, x.pay(0, 1, 1));
        Due.is("owes", BAD, x.owes(0, 1));
        Due.is("least", BAD, x.least(0, 1, 0, 0));
    }

    private static void feeds() {
        TideDebts x = new TideDebts();
        Due.is("0 bytes", BAD, x.feed(1, 0));
        Due.is("9 bytes", BAD, x.feed(1, 9));
        Due.is("-1 bytes", BAD, x.feed(1, -1));
        for (int i = 1; i <= 49; i++) {
            Due.is("8 bytes", 8 * i, x.feed(-1L, 8));
        }
        Due.is("1 byte", 393, x.feed(0, 1));
        Due.is("no room", FULL, x.feed(0, 8));
        Due.is("BAD comes ahead of FULL", BAD, x.feed(0, 9));
        Due.is("none came", 393, x.count(6));
        Due.is("to the end", 400, x.feed(0, 7));
        Due.is("nothing more", FULL, x.feed(0, 1));
        Due.is("byte -1 is no token", -1000100, x.bay());
        Due.is("empty then", 0, x.count(6));
        Due.is("the highest of the lowest three first", 3, x.feed(0x7777777777746964L, 3));
        Due.is("then", 4, x.feed('e', 1));
        Due.is("tid and e are the word", 0, Due.bay(x, Due.NEAP.substring(4)));
    }

    private static void readsBays() {
        TideDebts x = new TideDebts();
        Due.is("no water", 0, Due.bay(x, Due.NEAP));
        Due.is("it is a bay", 1, x.hours(1));
        Due.is("five", 5, Due.bay(x, Due.TIDE + Due.FIVE));
        int[] kinds = {1, 3, 2, 5, 4};
        int[] depths = {12, 20, 9, 30, 50};
        int[] sills = {0, 15, 3, 7, 0};
        for (int w = 0; w < 5; w++) {
            Due.is("kind " + w, kinds[w], x.kind(w));
            Due.is("depth " + w, depths[w], x.water(w, 0));
            Due.is("arrears " + w, 0, x.water(w, 1));
            Due.is("sill " + w, sills[w], x.water(w, 2));
            Due.is("balance " + w, 0, x.water(w, 3));
        }
        Due.is("no sixth", BAD, x.kind(5));
        Due.is("no -1", BAD, x.kind(-1));
        Due.is("the greatest numbers", 1,
            Due.bay(x, "tide 40 40 40 40 40 40 40 40 40 40 40 040;water dyke 200 40;"));
        Due.is("depth", 200, x.water(0, 0));
        Due.is("sill", 40, x.water(0, 2));
        Due.is("no fault so far", 0, x.fault());
    }

    private static void tokensNeedNoBlanks() {
        TideDebts x = new TideDebts();
        Due.is("names and numbers part themselves", 1,
            Due.bay(x, "tide0 1 2 3 4 5 6 5 4 3 2 1;water cove7 8;"));
        Due.is("depth", 7, x.water(0, 0));
        Due.is("lines and blanks", 2,
            Due.bay(x, "\n tide 0 1 2 3\n4 5 6 5 4 3 2 001 ;\n\nwater\ncove 000 00 ; water   pool 1 2\n;  \n"));
        Due.is("sill", 2, x.water(1, 2));
    }

    private static void fault(String text, int place, int number) {
        TideDebts x = new TideDebts();
        Due.is("'" + text + "'", -1000100 - place, Due.bay(x, text));
        Due.is("the fault of '" + text + "'", number, x.fault());
        Due.is("no bay", TideDebts.STATE, x.hours(1));
    }

    private static void findsFaults() {
        String t = Due.NEAP;
        int e = t.length();
        fault("", 0, 1);
        fault("   \n ", 5, 1);
        fault("tide", 4, 1);
        fault("tide  \n", 7, 1);
        fault("tides 1;", 0, 1);
        fault("tid", 0, 1);
        fault("aide 1", 0, 1);
        fault("tidez 1", 0, 1);
        fault("tidea 1", 0, 1);
        fault("tide`", 4, 1);
        fault("tide{", 4, 1);
        fault("tide /", 5, 1);
        fault("tide :", 5, 1);
        fault("Tide", 0, 1);
        fault(";", 0, 1);
        fault("12", 0, 1);
        fault("tide 1234;", 5, 1);
        fault("tide 0001;", 5, 1);
        fault("tide 4294967297;", 5, 1);
        fault("tide 40 41;", 8, 2);
        fault("tide 999 !", 5, 2);
        fault("tide 1,2", 6, 1);
        fault("tide 1 -2", 7, 1);
        fault("tide 1\t2", 6, 1);
        fault("tide 1 2 3 4 5 6 7 8 9 10 11;", 28, 1);
        fault("tide 1 2 3 4 5 6 7 8 9 10 11 12 13;", 32, 1);
        fault("tide 1 2 3 4 5 6 7 8 9 10 11 12 99;", 32, 1);
        fault("tide 1 x 99;", 7, 1);
        fault(t + ";", e, 1);
        fault(t + "5", e, 1);
        fault(t + "tide", e, 1);
        fault(t + "waters cove 1 1;", e, 1);
        fault(t + "water", e + 5, 1);
        fault(t + "water water", e + 6, 1);
        fault(t + "water cover 1 1;", e + 6, 1);
        fault(t + "water 1 1;", e + 6, 1);
        fault(t + "later cove 1 1;", e, 1);
        fault(t + "water love 1 1;", e + 6, 1);
        fault(t + "water fool 1 1;", e + 6, 1);
        fault(t + "water bell 1 1;", e + 6, 1);
        fault(t + "water hyke 1 1;", e + 6, 1);
        fault(t + "water bagoon 1 1;", e + 6, 1);
        fault(t + "water cove", e + 10, 1);
        fault(t + "water cove ;", e + 11, 1);
        fault(t + "water cove 201 41;", e + 11, 2);
        fault(t + "water cove 200 41;", e + 15, 2);
        fault(t + "water cove 1;", e + 12, 1);
        fault(t + "water cove 1 1", e + 14, 1);
        fault(t + "water cove 1 1 1;", e + 15, 1);
        fault(t + "water cove 1 1; water moat 1 1;", e + 22, 1);
        String six = "water cove 0 0;".repeat(6);
        fault(t + six + "water", e + 90, 3);
        fault(t + six + " water moat 999", e + 91, 3);
        fault(t + six + "waters", e + 90, 1);
        fault(t + six + "1", e + 90, 1);
        fault("tide 0 0 0 0 0 0 0 0 0 0 0 0" + (char) 233, 28, 1);
        fault("tide 0 0 0 0 0 0 0 0 0 0 0 0" + (char) 0 + ";", 28, 1);
        fault("a".repeat(400), 0, 1);
        fault("tide " + "1".repeat(395), 5, 1);
        fault(" ".repeat(400), 400, 1);
    }

    private static void aFaultKeepsAll() {
        TideDebts x = Due.made(Due.TIDE + Due.FIVE);
        x.row(0, 0, 3);
        x.lend(0, 1, 5);
        x.hours(2);
        x.ask(1, 0);
        Due.is("a fault", -1000100, Due.bay(x, "x"));
        String was = Due.all(x);
        Due.is("a fault of a second water", -1000100 - 54, Due.bay(x, Due.NEAP + "water dyke 1 1;water dyke"));
        Due.same("a fault keeps all", was, Due.all(x));
        Due.is("another", -1000100 - 55, Due.bay(x, Due.NEAP + "water dyke 1 1;water dyke 201 1;"));
        Due.is("its number", 2, x.fault());
        Due.bay(x, Due.NEAP);
        Due.is("the latest fault stays told", 2, x.fault());
    }

    private static void aBayTakesThePlaceOfAnother() {
        TideDebts x = Due.made(Due.SPRING + "water cove 5 0;water cove 9 0;water dyke 3 0;");
        x.lend(1, 0, 4);
        x.hours(3);
        x.storm(7);
        Due.is("two", 2, Due.bay(x, Due.NEAP + "water dyke 1 1;water pool 2 2;"));
        Due.is("HOUR 0", 0, x.count(2));
        Due.is("no debt", 0, x.count(5));
        Due.is("no act", 0, x.count(4));
        Due.is("none to undo", TideDebts.STATE, x.undo());
        Due.is("depth in all", 3, x.count(3));
        Due.is("no arrears", 0, x.water(0, 1));
        Due.is("no arrears", 0, x.water(1, 1));
        Due.is("no third", BAD, x.kind(2));
        Due.is("its tide", 1, x.hours(1));
    }
}
