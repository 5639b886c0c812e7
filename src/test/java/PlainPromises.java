/** What each promise says beside its edges, a method each; what is due was worked out by hand from the document. */
final class PlainPromises {
    private static final int NONE = TideDebts.NONE, PLACE = -1000012;
    /** RISE: 3 7 0 -9 -1 0 0 0 0 0 -6 6. */
    private static final String SEA = "tide 10 13 20 20 11 10 10 10 10 10 10 4;";
    private static final String DYKES = "water dyke 50 0;water dyke 50 0;water dyke 50 0;";

    private PlainPromises() {
    }

    static void all() {
        Due.each(
            PlainPromises::makesARow, PlainPromises::sets, PlainPromises::copies, PlainPromises::drops,
            PlainPromises::feeds, PlainPromises::passesHours, PlainPromises::lends, PlainPromises::pays,
            PlainPromises::storms, PlainPromises::settles, PlainPromises::undoes, PlainPromises::tellsOfAWater,
            PlainPromises::tellsWhatOneOwes, PlainPromises::tellsAhead, PlainPromises::tellsNets,
            PlainPromises::findsTheLeastLoan, PlainPromises::runs, PlainPromises::findsNoPlaceOfFrauds,
            PlainPromises::tellsKinds, PlainPromises::takesAs, PlainPromises::countsBytes);
    }

    private static void makesARow() {
        Due.sentence("Promise 2", "A ROW of a LANE with n ITEMS");
        TideDebts x = new TideDebts();
        for (int lane = 0; lane < 3; lane++) {
            Due.is("lane " + lane, 5 + lane, x.row(lane, lane, 5 + lane));
            Due.is("its last item", 9, x.set(lane, 4 + lane, 9));
            Due.is("no more", PLACE, x.set(lane, 5 + lane, 9));
        }
        Due.is("rows", 3, x.count(0));
    }

    private static void sets() {
        Due.sentence("Promise 3", "ITEM i becomes v");
        TideDebts x = Due.made(SEA + DYKES);
        x.row(0, 0, 3);
        Due.is("0", 50, x.set(0, 0, 50));
        Due.is("2", 50, x.set(0, 2, 50));
        Due.is("1 is 0 yet", 2, x.frauds(0, 0));
        Due.is("1", 50, x.set(0, 1, 50));
        Due.is("all three", 0, x.frauds(0, 0));
        Due.is("0 anew", 7, x.set(0, 0, 7));
        Due.is("0 alone", 1, x.frauds(0, 0));
    }

    private static void copies() {
        Due.sentence("Promise 4", "as they were ahead: n");
        TideDebts x = Due.made(SEA + DYKES);
        x.row(0, 1, 5);
        x.row(1, 1, 4);
        for (int i = 2; i < 5; i++) {
            x.set(0, i, 50);
        }
        Due.is("two", 2, x.copy(0, 2, 1, 1, 2));
        Due.is("1 and 2 have come, 3 has not", 4, x.frauds(1, 1));
        Due.is("a has them yet", 0, x.frauds(0, 2));
        Due.is("three", 3, x.copy(0, 2, 1, 1, 3));
        Due.is("all have come", 0, x.frauds(1, 1));
        Due.is("0 of b is as it was", 1, x.frauds(1, 0));
    }

    private static void drops() {
        Due.sentence("Promise 5", "A ROW is missing from now on");
        TideDebts x = new TideDebts();
        x.row(0, 0, 3);
        x.row(1, 0, 4);
        Due.is("its items", 3, x.drop(0));
        Due.is("it is missing", -1000011, x.set(0, 0, 1));
        Due.is("the other is not", 1, x.set(1, 0, 1));
        Due.is("rows", 1, x.count(0));
    }

    private static void feeds() {
        Due.sentence("Promise 6", "come behind the tape: how many it has");
        TideDebts x = new TideDebts();
        Due.is("'tide'", 4, x.feed(0x74696465, 4));
        Due.is("' 1'", 6, x.feed(0x2031, 2));
        Due.is("' x'", 8, x.feed(0x2078, 2));
        Due.is("'tide 1 x'", -1000107, x.bay());
    }

    private static void passesHours() {
        Due.sentence("Promise 9", "RISE of the last one. BAD");
        TideDebts x = Due.made(SEA + "water cove 12 0;");
        Due.is("of HOUR 1", 7, x.hours(2));
        Due.is("of HOUR 3", -9, x.hours(2));
        Due.is("depth", 13, x.water(0, 0));
        Due.is("of HOUR 10", -6, x.hours(7));
        Due.is("depth", 6, x.water(0, 0));
        Due.is("0", -1000001, x.hours(0));
    }

    private static void lends() {
        Due.sentence("Promise 10", "A LOAN: what it owes that one then.");
        TideDebts x = Due.made(SEA + DYKES);
        Due.is("4", 4, x.lend(0, 1, 4));
        Due.is("5 more", 9, x.lend(0, 1, 5));
        Due.is("to another", 6, x.lend(0, 2, 6));
        Due.is("from another", 3, x.lend(2, 1, 3));
        Due.is("who lent has less", 35, x.water(0, 0));
        Due.is("who got it has more", 62, x.water(1, 0));
        Due.is("the third", 53, x.water(2, 0));
    }

    private static void pays() {
        Due.sentence("Promise 11", "One PAYS: what it owes that one yet.");
        TideDebts x = Due.made(SEA + DYKES);
        x.lend(0, 1, 20);
        x.lend(2, 1, 9);
        Due.is("some", 13, x.pay(1, 0, 7));
        Due.is("all of the other", 0, x.pay(1, 2, 9));
        Due.is("the rest", 0, x.pay(1, 0, 13));
        for (int w = 0; w < 3; w++) {
            Due.is("depth", 50, x.water(w, 0));
        }
    }

    private static void storms() {
        Due.sentence("Promise 12", "BAD");
        TideDebts x = Due.made(SEA + DYKES);
        Due.is("SEED 0", -1000001, x.storm(0));
        Due.is("SEED 1: 4, 7, 5", 16, x.storm(1));
        Due.is("depth in all", 166, x.count(3));
    }

    private static void settles() {
        Due.sentence("Promise 13", "A NET: how much was moved in all.");
        TideDebts x = Due.made(SEA + DYKES);
        x.lend(0, 1, 30);
        x.lend(2, 1, 8);
        x.lend(1, 2, 3);
        Due.is("30 and 5", 35, x.settle());
        Due.is("debts", 0, x.count(5));
        Due.is("nothing is left of it", 0, x.settle());
    }

    private static void undoes() {
        Due.sentence("Promise 14", "The latest ACT is undone");
        TideDebts x = Due.made(SEA + DYKES);
        x.lend(0, 1, 30);
        x.hours(1);
        x.lend(0, 1, 2);
        Due.is("the second loan", 2, x.undo());
        Due.is("the first one stays", 30, x.owes(1, 0));
        Due.is("the HOUR stays", 1, x.count(2));
        Due.is("the HOUR", 1, x.undo());
        Due.is("it is HOUR 0", 0, x.count(2));
        Due.is("the first one stays", 30, x.owes(1, 0));
        Due.is("the first loan", 0, x.undo());
        Due.is("no debt", 0, x.owes(1, 0));
        Due.is("depth", 50, x.water(0, 0));
    }

    private static void tellsOfAWater() {
        Due.sentence("Promise 15", "Of a WATER: 0 DEPTH, 1 ARREARS, 2 SILL, 3 BALANCE.");
        TideDebts x = Due.made("tide 9 2 9 9 9 9 9 9 9 9 9 9;water cove 12 3;water dyke 40 5;");
        x.lend(0, 1, 8);
        x.hours(1);
        int[][] due = {{0, 3, 3, -8}, {48, 0, 5, 8}};
        for (int w = 0; w < 2; w++) {
            for (int what = 0; what < 4; what++) {
                Due.is("water " + w + ", " + what, due[w][what], x.water(w, what));
            }
        }
    }

    private static void tellsWhatOneOwes() {
        Due.sentence("Promise 16", "What one owes another.");
        TideDebts x = Due.made(SEA + DYKES);
        x.lend(0, 1, 8);
        x.lend(1, 2, 4);
        x.lend(1, 0, 2);
        int[][] due = {{-1000001, 2, 0}, {8, -1000001, 0}, {0, 4, -1000001}};
        for (int from = 0; from < 3; from++) {
            for (int to = 0; to < 3; to++) {
                Due.is(from + " to " + to, due[from][to], x.owes(from, to));
            }
        }
    }

    private static void tellsAhead() {
        Due.sentence("Promise 17", "AHEAD: DEPTH (what = 0), ARREARS (1), what it owes to all others (2).");
        TideDebts x = Due.made("tide 9 2 3 9 9 9 9 9 9 9 9 9;water cove 2 0;water dyke 40 0;water dyke 40 0;");
        x.lend(1, 0, 10);
        x.lend(2, 0, 20);
        x.lend(0, 1, 31);
        int[][] due = {{1, 0, 30}, {0, 6, 30}, {0, 5, 33}, {1, 0, 33}, {1, 0, 36}};
        for (int n = 0; n < due.length; n++) {
            for (int what = 0; what < 3; what++) {
                Due.is("by " + n + ", " + what, due[n][what], x.ahead(0, n, what));
            }
        }
    }

    private static void tellsNets() {
        Due.sentence("Promise 19", "NET: how many gifts (k = -1), of the k-th: from whom (what = 0), to whom (1), "
            + "how much (2); whether it CAN be (k = -2: 1, 0)");
        TideDebts x = Due.made("tide 40 0 40 40 40 40 40 40 40 40 40 40;water dyke 50 0;water cove 30 0;water dyke 50 0;");
        x.lend(0, 1, 9);
        x.lend(2, 1, 6);
        for (int what = 0; what < 3; what++) {
            Due.is("gifts, " + what, 2, x.net(-1, what));
            Due.is("it can be, " + what, 1, x.net(-2, what));
            Due.is("the first, " + what, new int[] {1, 0, 9}[what], x.net(0, what));
            Due.is("the second, " + what, new int[] {1, 2, 6}[what], x.net(1, what));
            Due.is("no third, " + what, NONE, x.net(2, what));
        }
        x.hours(1);
        Due.is("5 for 15", 0, x.net(-2, 0));
        Due.is("gifts all the same", 2, x.net(-1, 0));
    }

    private static void findsTheLeastLoan() {
        Due.sentence("Promise 20", "LEAST LOAN of a from b; NONE");
        TideDebts x = Due.made(SEA + "water cove 12 0;water dyke 30 0;");
        Due.is("of the cove from the dyke", 8, x.least(0, 1, 30, 2));
        Due.is("all that it has", 30, x.least(0, 1, 52, 2));
        Due.is("more", NONE, x.least(0, 1, 53, 2));
        Due.is("of the dyke from the cove", 10, x.least(1, 0, 40, 2));
        Due.is("all that it has", 12, x.least(1, 0, 42, 2));
        Due.is("more", NONE, x.least(1, 0, 43, 2));
        Due.is("none is needed", 0, x.least(0, 1, 22, 2));
    }

    private static void runs() {
        Due.sentence("Promise 21", "RUN.");
        TideDebts x = Due.made(SEA + DYKES);
        Due.is("nobody owes", 0, x.run());
        x.lend(0, 1, 50);
        x.lend(1, 2, 60);
        Due.is("1 has 40 for 50", 2, x.run());
        x.lend(2, 1, 10);
        Due.is("1 has 50 for 50, and then 2 has 100 for 60 and owed 10", 2, x.run());
        x.pay(1, 2, 10);
        x.pay(2, 1, 10);
        Due.is("1 has 50 for 50", 0, x.run());
        Due.is("nothing is moved", 100, x.water(2, 0));
    }

    private static void findsNoPlaceOfFrauds() {
        Due.sentence("Promise 22", "PLACE");
        TideDebts x = Due.made(SEA + DYKES);
        x.row(0, 0, 4);
        Due.is("0 to 2", 7, x.frauds(0, 0));
        Due.is("1 to 3", 7, x.frauds(0, 1));
        Due.is("2 to 4", PLACE, x.frauds(0, 2));
        Due.is("status", 2, x.status());
        Due.is("from -1 on", PLACE, x.frauds(0, -1));
    }

    private static void tellsKinds() {
        Due.sentence("Promise 25", "The KIND of a WATER");
        TideDebts x = Due.made(SEA + "water well 1 1;water dyke 1 1;water pool 1 1;water lagoon 1 1;water cove 1 1;");
        for (int w = 0; w < 5; w++) {
            Due.is("water " + w, 5 - w, x.kind(w));
        }
    }

    private static void takesAs() {
        Due.sentence("Promise 26", "A WATER is taken as one of a KIND");
        TideDebts x = Due.made(SEA + "water dyke 1 1;water well 1 1;");
        Due.is("a well as a water", 1, x.as(1, 0));
        Due.is("a well as a dyke", 1, x.as(1, 4));
        Due.is("a well as a well", 1, x.as(1, 5));
        Due.is("its kind stays", 5, x.kind(1));
        Due.is("a dyke as a dyke", 0, x.as(0, 4));
    }

    private static void countsBytes() {
        Due.sentence("Promise 29", "6 bytes on the tape");
        TideDebts x = new TideDebts();
        x.feed(0, 3);
        Due.is("3", 3, x.count(6));
        x.feed(0, 8);
        Due.is("11", 11, x.count(6));
        x.bay();
        Due.is("none", 0, x.count(6));
    }
}
