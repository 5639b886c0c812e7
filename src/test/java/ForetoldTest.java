/** Promises 17 to 24: what is foretold, and images. */
public final class ForetoldTest {
    private static final int NONE = TideDebts.NONE, BAD = TideDebts.BAD, STATE = TideDebts.STATE;
    private static final int NULL = -1000011, PLACE = -1000012;

    public static void main(String[] args) {
        tellsAhead();
        sails();
        sailsLate();
        nets();
        netsThatCannotBe();
        leastLoans();
        leastLoansAgainstArrears();
        runs();
        frauds();
        fraudsWithoutWaters();
        foretellingChangesNothing();
        images();
        imagesRefused();
        Due.end();
    }

    private static TideDebts owing() {
        TideDebts x = Due.made(Due.NEAP + "water cove 9 0;water dyke 50 0;water well 0 0;");
        x.lend(1, 0, 20);
        x.lend(1, 2, 10);
        x.lend(0, 2, 5);
        x.storm(3);
        return x;
    }

    private static void tellsAhead() {
        for (int w = 0; w < 3; w++) {
            TideDebts x = owing();
            TideDebts y = owing();
            String was = Due.all(x);
            for (int n = 0; n <= 48; n++) {
                Due.is("depth of " + w + " ahead by " + n, y.water(w, 0), x.ahead(w, n, 0));
                Due.is("arrears of " + w + " ahead by " + n, y.water(w, 1), x.ahead(w, n, 1));
                int owed = y.owes(w, (w + 1) % 3) + y.owes(w, (w + 2) % 3);
                Due.is("debts of " + w + " ahead by " + n, owed, x.ahead(w, n, 2));
                y.hours(1);
            }
            Due.same("nothing changes", was, Due.all(x));
        }
        TideDebts x = owing();
        Due.is("two debts of the well, a tenth more each", 11 + 5, x.ahead(2, 1, 2));
        Due.is("-1", BAD, x.ahead(0, -1, 0));
        Due.is("49", BAD, x.ahead(0, 49, 0));
        Due.is("what 3", BAD, x.ahead(0, 0, 3));
        Due.is("what -1", BAD, x.ahead(0, 0, -1));
        Due.is("water 3", BAD, x.ahead(3, 0, 0));
        Due.is("water -1", BAD, x.ahead(-1, 0, 0));
    }

    private static void sails() {
        // depths from now on: 12 18 26 34 42 43 42 34 26 18 13 12, and so on
        TideDebts x = Due.made(Due.TIDE + Due.FIVE);
        Due.is("now", 0, x.sail(0, 12, 1, 0));
        Due.is("home an HOUR behind", 1, x.sail(0, 12, 1, 1));
        Due.is("out", 4, x.sail(0, 40, 1, 0));
        Due.is("home", 5, x.sail(0, 40, 1, 1));
        Due.is("home, two", 6, x.sail(0, 40, 2, 1));
        Due.is("home in the next round", 16, x.sail(0, 40, 3, 1));
        Due.is("home in the third round", 28, x.sail(0, 42, 15, 1));
        Due.is("24 HOURS", 28, x.sail(0, 41, 24, 1));
        Due.is("just there", 5, x.sail(0, 43, 1, 0));
        Due.is("never", NONE, x.sail(0, 44, 1, 0));
        Due.is("no way out, none home", NONE, x.sail(0, 44, 1, 1));
        Due.is("draught 0", 0, x.sail(0, 0, 24, 0));
        Due.is("home of 0", 24, x.sail(0, 0, 24, 1));
        Due.is("draught 999", NONE, x.sail(0, 999, 24, 1));
        x.hours(5);
        Due.is("from now on", 0, x.sail(0, 43, 1, 0));
        Due.is("a round", 12, x.sail(0, 43, 1, 1));
        Due.is("draught -1", BAD, x.sail(0, -1, 1, 0));
        Due.is("draught 1000", BAD, x.sail(0, 1000, 1, 0));
        Due.is("m 0", BAD, x.sail(0, 1, 0, 0));
        Due.is("m 25", BAD, x.sail(0, 1, 25, 0));
        Due.is("what 2", BAD, x.sail(0, 1, 1, 2));
        Due.is("what -1", BAD, x.sail(0, 1, 1, -1));
        Due.is("water 5", BAD, x.sail(5, 1, 1, 0));
        Due.is("water -1", BAD, x.sail(-1, 1, 1, 0));
    }

    private static void sailsLate() {
        // A pool that the sea fills by 10 in HOURS 0, 12, 24, 36 and never empties: 0, 10 (HOUR 1), 20 (13), 30 (25), 40 (37)
        TideDebts x = Due.made("tide 0 10 0 0 0 0 0 0 0 0 0 0;water pool 0 10;water dyke 9 0;");
        Due.is("20", 13, x.sail(0, 20, 1, 0));
        Due.is("30 is deep too late", NONE, x.sail(0, 30, 1, 0));
        Due.is("and none home", NONE, x.sail(0, 30, 1, 1));
        x.hours(1);
        Due.is("in HOUR 24 from now on", 24, x.sail(0, 30, 1, 0));
        Due.is("home behind that", 48, x.sail(0, 30, 24, 1));
        TideDebts y = Due.made("tide 1 0 0 0 0 0 0 0 0 0 0 0;water cove 1 0;");
        y.hours(1);
        Due.is("deep every twelfth HOUR", 11, y.sail(0, 1, 1, 0));
        Due.is("home 12 on", 23, y.sail(0, 1, 12, 1));
        Due.is("home 13 or more on", 35, y.sail(0, 1, 13, 1));
        // Eleven floods of 1 give a lagoon nothing, the ebb of 11 takes 5: it falls dry, and stays so
        TideDebts z = Due.made("tide 0 1 2 3 4 5 6 7 8 9 10 11;water lagoon 5 0;");
        Due.is("out now", 0, z.sail(0, 1, 12, 0));
        Due.is("home by the last HOUR ahead of the ebb", 11, z.sail(0, 1, 11, 1));
        Due.is("never home", NONE, z.sail(0, 1, 12, 1));
    }

    private static void nets() {
        TideDebts x = Due.made(Due.NEAP + "water cove 200 0;water cove 0 0;water lagoon 7 0;water pool 40 4;"
            + "water well 3 0;water dyke 9 0;");
        Due.is("no gift", 0, x.net(-1, 0));
        Due.is("can be", 1, x.net(-2, 2));
        Due.is("no first", NONE, x.net(0, 0));
        x.lend(0, 1, 100);
        x.lend(3, 2, 30);
        x.lend(1, 4, 60);
        x.lend(1, 5, 40);
        // balances: -100, 0, 30, -30, 60, 40
        int[][] gifts = {{2, 0, 30}, {4, 0, 60}, {5, 0, 10}, {5, 3, 30}};
        Due.is("gifts", gifts.length, x.net(-1, 0));
        for (int k = 0; k < gifts.length; k++) {
            for (int what = 0; what < 3; what++) {
                Due.is("gift " + k + ", " + what, gifts[k][what], x.net(k, what));
            }
        }
        Due.is("no fifth", NONE, x.net(4, 0));
        Due.is("largest", NONE, x.net(Integer.MAX_VALUE, 2));
        Due.is("can be", 1, x.net(-2, 0));
        Due.is("-3", BAD, x.net(-3, 0));
        Due.is("least", BAD, x.net(Integer.MIN_VALUE, 0));
        Due.is("what 3", BAD, x.net(0, 3));
        Due.is("what -1", BAD, x.net(0, -1));
        Due.is("what with -1", BAD, x.net(-1, 3));
        Due.is("what with -2", BAD, x.net(-2, -1));
        Due.is("BAD comes ahead of NONE", BAD, x.net(9, 3));
        Due.is("settled", 130, x.settle());
        Due.is("none then", 0, x.net(-1, 0));
    }

    private static void netsThatCannotBe() {
        TideDebts x = Due.made(Due.SPRING + "water dyke 9 0;water cove 50 0;");
        x.lend(0, 1, 9);
        Due.is("can be", 1, x.net(-2, 0));
        x.hours(1);
        Due.is("19 for 9", 1, x.net(-2, 0));
        x.pay(1, 0, 9);
        x.lend(1, 0, 10);
        Due.is("19 for 10", 1, x.net(-2, 0));
        x.lend(0, 1, 19);
        Due.is("balances -9 and 9: 9 is there", 1, x.net(-2, 0));
        TideDebts y = Due.made(Due.SPRING + "water cove 9 0;water dyke 9 0;water dyke 9 0;");
        y.lend(1, 0, 1);
        y.hours(1);
        Due.is("0 for 1", 0, y.net(-2, 0));
        Due.is("gifts all the same", 1, y.net(-1, 0));
        Due.is("how much", 1, y.net(0, 2));
        y.lend(2, 0, 2);
        Due.is("2 for 3", 0, y.net(-2, 0));
        y.storm(1);
        Due.is("6 for 3", 1, y.net(-2, 0));
    }

    private static void leastLoans() {
        // cove: 12 18 26 34 42 43 42 34 26 18 13 12
        TideDebts x = Due.made(Due.TIDE + Due.FIVE);
        Due.is("there already", 0, x.least(0, 4, 12, 0));
        Due.is("one", 1, x.least(0, 4, 13, 0));
        Due.is("all of it", 50, x.least(0, 4, 62, 0));
        Due.is("more than there is", NONE, x.least(0, 4, 63, 0));
        Due.is("by the flood", 0, x.least(0, 4, 42, 4));
        Due.is("by the flood, and 3", 3, x.least(0, 4, 45, 4));
        Due.is("a day on", 38, x.least(0, 4, 50, 24));
        Due.is("depth 0", 0, x.least(0, 4, 0, 24));
        Due.is("depth 999", NONE, x.least(0, 4, 999, 24));
        Due.is("a dyke", 12, x.least(4, 0, 62, 24));
        Due.is("a dyke, and one more", NONE, x.least(4, 0, 63, 24));
        Due.is("alike", BAD, x.least(0, 0, 0, 0));
        Due.is("a", BAD, x.least(5, 0, 0, 0));
        Due.is("b", BAD, x.least(0, 5, 0, 0));
        Due.is("a below 0", BAD, x.least(-1, 0, 0, 0));
        Due.is("b below 0", BAD, x.least(0, -1, 0, 0));
        Due.is("d below 0", BAD, x.least(0, 1, -1, 0));
        Due.is("d 1000", BAD, x.least(0, 1, 1000, 0));
        Due.is("n below 0", BAD, x.least(0, 1, 0, -1));
        Due.is("n 25", BAD, x.least(0, 1, 0, 25));
    }

    private static void leastLoansAgainstArrears() {
        // ebb of 40, then flood of 40: what the cove can not give is arrears, which the flood meets first
        TideDebts x = Due.made(Due.SPRING + "water cove 5 0;water dyke 200 0;");
        Due.is("behind the ebb", 36, x.least(0, 1, 1, 1));
        Due.is("behind the ebb, 10", 45, x.least(0, 1, 10, 1));
        Due.is("behind the flood", 0, x.least(0, 1, 5, 2));
        Due.is("behind the flood, 6", 1, x.least(0, 1, 6, 2));
        x.storm(1);
        // 9 deep with 4 of arrears; the dyke has 207
        Due.is("behind a storm and the ebb", 32, x.least(0, 1, 1, 1));
        Due.is("a storm's arrears are met by the flood", 0, x.least(0, 1, 5, 2));
        Due.is("and 1", 1, x.least(0, 1, 6, 2));
        Due.is("all", 207, x.least(0, 1, 216, 0));
        Due.is("more", NONE, x.least(0, 1, 217, 0));
        for (int d = 0; d < 230; d += 3) {
            for (int n = 0; n <= 3; n++) {
                int least = x.least(0, 1, d, n);
                Due.is("a loan of " + least + " does for " + d, 1, least == NONE || doesWith(least, d, n) ? 1 : 0);
                Due.is("an inch less does not", 0, least > 0 && doesWith(least - 1, d, n) ? 1 : 0);
            }
        }
    }

    private static boolean doesWith(int loan, int d, int n) {
        TideDebts x = Due.made(Due.SPRING + "water cove 5 0;water dyke 200 0;");
        x.storm(1);
        if (loan > 0) {
            x.lend(1, 0, loan);
        }
        return x.ahead(0, n, 0) >= d;
    }

    private static void runs() {
        TideDebts x = Due.made(Due.SPRING + "water dyke 10 0;water dyke 10 0;water dyke 10 0;water dyke 0 0;");
        Due.is("nobody owes", 0, x.run());
        x.lend(0, 1, 10);
        Due.is("it can pay", 0, x.run());
        x.lend(1, 2, 20);
        // 1 owes 0 10 and has none, 2 owes 1 20 and has 30: 1 pays ahead of 2
        Due.is("one that gets its own too late", 2, x.run());
        x.lend(2, 0, 20);
        // 0 owes 2 20 and has 20; 1 owes 0 10 and has 0; 2 owes 1 20
        Due.is("two is paid ahead of its turn", 2, x.run());
        x.lend(0, 3, 15);
        // 0 has 5 for 20; 1 has 0 for 10; 2 has 10 and 5 for 20; 3 has 15 for 15
        Due.is("as far as it goes", 7, x.run());
        x.storm(1);
        // more depth: 0 has 9, 1 has 7, 2 has 15, 3 has 17
        Due.is("2 has 24 then", 3, x.run());
        TideDebts y = Due.made(Due.SPRING + "water dyke 10 0;water dyke 10 0;water dyke 10 0;");
        y.lend(1, 0, 6);
        y.lend(2, 0, 6);
        y.lend(0, 1, 18);
        // 0 has 4: 1 of 6 gets 4 (22 + 4 = 26), 2 gets none; 1 owes 0 18
        Due.is("the others in order", 1, y.run());
        y.lend(1, 2, 8);
        // 1 has 14 and 4 for the 18 that it owes 0; 2 has 12 for the 8 that it owes 1
        Due.is("just enough", 1, y.run());
        y.lend(1, 2, 1);
        Due.is("one too few", 3, y.run());
    }

    private static void frauds() {
        TideDebts x = Due.made(Due.TIDE + Due.FIVE);
        x.row(0, 1, 7);
        int[] next = {18, 20, 12, 30, 50};
        for (int w = 0; w < 5; w++) {
            x.set(0, w + 1, next[w]);
        }
        Due.is("all is so", 0, x.frauds(0, 1));
        x.set(0, 3, 13);
        x.set(0, 5, 49);
        Due.is("2 and 4", 20, x.frauds(0, 1));
        Due.is("an item beside them may be below 0", -1, x.set(0, 0, -1));
        Due.is("2 and 4 yet", 20, x.frauds(0, 1));
        Due.is("all from another place on", 31, x.frauds(0, 2));
        Due.is("below 0", BAD, x.frauds(0, 0));
        Due.is("beyond the end", PLACE, x.frauds(0, 3));
        Due.is("-1", PLACE, x.frauds(0, -1));
        Due.is("largest", PLACE, x.frauds(0, Integer.MAX_VALUE));
        Due.is("PLACE comes ahead of an item", PLACE, x.frauds(0, -1));
        Due.is("missing", NULL, x.frauds(1, -1));
        Due.is("row 8", BAD, x.frauds(8, 0));
        Due.is("row -1", BAD, x.frauds(-1, 0));
        x.row(0, 0, 4);
        Due.is("too short", PLACE, x.frauds(0, 0));
        x.row(0, 0, 6);
        x.set(0, 4, -1);
        Due.is("the last is below 0", BAD, x.frauds(0, 0));
        x.set(0, 4, 0);
        x.set(0, 5, -1);
        Due.is("the one behind it", 31, x.frauds(0, 0));
    }

    private static void fraudsWithoutWaters() {
        TideDebts x = Due.made(Due.TIDE);
        x.row(0, 2, 2);
        x.set(0, 1, -1);
        Due.is("at the end", 0, x.frauds(0, 2));
        Due.is("beyond it", PLACE, x.frauds(0, 3));
        Due.is("at one below 0", 0, x.frauds(0, 1));
    }

    private static void foretellingChangesNothing() {
        TideDebts x = Due.made(Due.NEAP + "water cove 30 0;water lagoon 10 0;water well 3 0;");
        x.lend(0, 1, 20);
        x.hours(3);
        x.storm(9);
        x.row(0, 0, 3);
        String was = Due.all(x);
        x.ahead(0, 48, 2);
        x.sail(0, 40, 3, 1);
        x.net(0, 2);
        x.net(-2, 0);
        x.least(1, 0, 35, 12);
        x.run();
        x.frauds(0, 0);
        x.image(0);
        Due.same("foretold", was, Due.all(x));
        x.undo();
        x.undo();
        x.undo();
        x.undo();
        Due.is("the loan is undone last", 0, x.undo());
    }

    private static void images() {
        TideDebts x = Due.made(Due.NEAP + "water cove 30 0;water lagoon 10 4;water well 3 0;");
        x.lend(0, 1, 20);
        x.hours(2);
        x.storm(5);
        int acts = x.count(4);
        Due.is("image", 1, x.image(0));
        Due.is("acts stay", acts, x.count(4));
        String was = Due.bayOf(x);
        x.settle();
        x.hours(1);
        Due.is("another image", 1, x.image(1));
        Due.is("another bay", 1, Due.bay(x, Due.SPRING + "water dyke 5 0;"));
        Due.is("back", 1, x.restore(0));
        Due.is("no act", 0, x.count(4));
        Due.is("none to undo", STATE, x.undo());
        Due.same("as it was", was, Due.bayOf(x));
        x.restore(1);
        Due.is("HOURS of the other", 3, x.count(2));
        Due.is("debts of the other", 0, x.count(5));
        x.hours(5);
        x.lend(0, 2, 3);
        x.restore(0);
        Due.is("no act of the bay that was there", 0, x.count(4));
        Due.is("none of it is undone", STATE, x.undo());
        Due.is("an image is not changed by what comes behind it", 2, x.count(2));
        Due.is("its debt", 24, x.owes(1, 0));
        Due.is("its sill", 4, x.water(1, 2));
        Due.is("its tide", 1, x.hours(1));
        x.image(0);
        x.hours(1);
        x.restore(0);
        Due.is("a new image takes the place of the old", 3, x.count(2));
    }

    private static void imagesRefused() {
        TideDebts x = new TideDebts();
        Due.is("no bay", STATE, x.image(0));
        Due.is("no bay, BAD", BAD, x.image(2));
        Due.is("none kept", STATE, x.restore(0));
        Due.is("BAD", BAD, x.restore(2));
        Due.bay(x, Due.NEAP + "water cove 1 1;");
        Due.is("none kept of it", STATE, x.restore(0));
        Due.is("2", BAD, x.image(2));
        Due.is("-1", BAD, x.image(-1));
        Due.is("restore -1", BAD, x.restore(-1));
        Due.is("3", BAD, x.image(3));
        Due.is("restore 3", BAD, x.restore(3));
        x.image(1);
        Due.is("the other is not kept", STATE, x.restore(0));
        Due.is("this one is", 1, x.restore(1));
        x.hours(1);
        Due.is("refused", STATE, x.restore(0));
        Due.is("acts stay where it is refused", 1, x.count(4));
    }
}
