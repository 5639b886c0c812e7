/** The sentences of "3 FORETOLD" and of promises 17 to 24 that name an edge, a method each. */
final class ForetoldEdges {
    private static final int NONE = TideDebts.NONE, BAD = TideDebts.BAD, STATE = TideDebts.STATE;
    private static final int NULL = -1000011, PLACE = -1000012;
    private static final int LEAST = Integer.MIN_VALUE, MOST = Integer.MAX_VALUE;
    private static final int[] NO_WATERS = {-1, 2, 6, LEAST, MOST};
    private static final String TWO = "water cove 12 0;water dyke 50 0;";

    private ForetoldEdges() {
    }

    static void all() {
        Due.each(
            ForetoldEdges::ofAhead, ForetoldEdges::ofSail, ForetoldEdges::ofNet, ForetoldEdges::ofLeast,
            ForetoldEdges::ofRun, ForetoldEdges::ofFrauds, ForetoldEdges::ofImages);
    }

    private static void ofAhead() {
        Due.each(
            ForetoldEdges::aheadBy0To48, ForetoldEdges::aheadBeyondHour999, ForetoldEdges::aheadOfEachDebt,
            ForetoldEdges::aheadOfNoSuchThing);
    }

    private static void ofSail() {
        Due.each(
            ForetoldEdges::sailNow, ForetoldEdges::sailOutBy24AtMost, ForetoldEdges::sailHomeByMOrMore,
            ForetoldEdges::sailHomeBy48AtMost, ForetoldEdges::sailOfDraughts, ForetoldEdges::sailNever,
            ForetoldEdges::sailOfNoSuchThing);
    }

    private static void ofNet() {
        Due.each(
            ForetoldEdges::netOfNoBalance, ForetoldEdges::netOfTheFirstOnes, ForetoldEdges::netOfTheLesser,
            ForetoldEdges::netCanBe, ForetoldEdges::netOfNotSoMany, ForetoldEdges::netOfNoSuchThing,
            ForetoldEdges::netWithoutABay);
    }

    private static void ofLeast() {
        Due.each(
            ForetoldEdges::leastOf0ToAll, ForetoldEdges::leastOfDepths, ForetoldEdges::leastBehindHours,
            ForetoldEdges::leastAlike);
    }

    private static void ofRun() {
        Due.each(
            ForetoldEdges::runInOrder, ForetoldEdges::runAsFarAsItGoes, ForetoldEdges::runOfSix,
            ForetoldEdges::runWithoutABay);
    }

    private static void ofFrauds() {
        Due.each(
            ForetoldEdges::fraudsBehindTheNextHour, ForetoldEdges::fraudsOfSix, ForetoldEdges::fraudsOfAsManyItems,
            ForetoldEdges::fraudsOfNoSuchRow, ForetoldEdges::fraudsWithoutABay, ForetoldEdges::fraudsOfMissingRow,
            ForetoldEdges::fraudsOfAnItemBelow0);
    }

    private static void ofImages() {
        Due.each(
            ForetoldEdges::imagesAreTwo, ForetoldEdges::imageWithoutABay, ForetoldEdges::restoreOfNone,
            ForetoldEdges::restoreLeavesNoAct, ForetoldEdges::anImageIsOfItsOwn);
    }

    private static void aheadBy0To48() {
        Due.sentence("3 FORETOLD", "AHEAD by n HOURS (0 to 48)");
        TideDebts x = Due.made(Due.TIDE + Due.FIVE);
        TideDebts y = Due.made(Due.TIDE + Due.FIVE);
        x.hours(5);
        y.hours(5);
        x.storm(3);
        y.storm(3);
        for (int n = 0; n <= 48; n++) {
            Due.is("depth by " + n, y.water(2, 0), x.ahead(2, n, 0));
            Due.is("arrears by " + n, y.water(2, 1), x.ahead(2, n, 1));
            y.hours(1);
        }
        for (int n : new int[] {-1, 49, LEAST, MOST}) {
            Due.is("by " + n, BAD, x.ahead(0, n, 0));
        }
    }

    private static void aheadBeyondHour999() {
        Due.sentence("3 FORETOLD", "FORETOLD (nothing changes)");
        TideDebts x = Due.made(Due.TIDE + TWO);
        for (int i = 0; i < 41; i++) {
            x.hours(24);
        }
        x.hours(15);
        // HOUR 999 is as HOUR 3: 34 deep, with 42, 43, 42 to come
        x.row(0, 0, 2);
        x.set(0, 0, 42);
        x.set(0, 1, 50);
        Due.is("ahead by 1", 42, x.ahead(0, 1, 0));
        Due.is("ahead by 48", 34, x.ahead(0, 48, 0));
        Due.is("out", 2, x.sail(0, 43, 1, 0));
        Due.is("home", 14, x.sail(0, 43, 1, 1));
        Due.is("least", 1, x.least(0, 1, 35, 24));
        Due.is("frauds", 0, x.frauds(0, 0));
        Due.is("HOURS gone", 999, x.count(2));
        Due.is("depth", 34, x.water(0, 0));
    }

    private static void aheadOfEachDebt() {
        Due.sentence("3 FORETOLD", "what it owes to all others");
        TideDebts x = Due.made(Due.NEAP + "water dyke 50 0;water dyke 50 0;water dyke 50 0;");
        Due.is("nothing", 0, x.ahead(0, 48, 2));
        x.lend(1, 0, 9);
        x.lend(2, 0, 9);
        x.lend(0, 1, 20);
        Due.is("now", 18, x.ahead(0, 0, 2));
        Due.is("a tenth of each, cut", 18, x.ahead(0, 48, 2));
        Due.is("a tenth of 20", 22, x.ahead(1, 1, 2));
        Due.is("a tenth of 22, too", 24, x.ahead(1, 2, 2));
        Due.is("who owes nothing", 0, x.ahead(2, 48, 2));
    }

    private static void aheadOfNoSuchThing() {
        Due.sentence("Promise 17", "BAD");
        TideDebts x = Due.made(Due.TIDE + TWO);
        for (int w : NO_WATERS) {
            Due.is("water " + w, BAD, x.ahead(w, 0, 0));
        }
        for (int what : new int[] {-1, 3, LEAST, MOST}) {
            Due.is("what " + what, BAD, x.ahead(0, 0, what));
        }
        Due.is("without a bay", BAD, new TideDebts().ahead(0, 0, 0));
    }

    private static void sailNow() {
        Due.sentence("3 FORETOLD", "the first HOUR from now on (0: now");
        TideDebts x = Due.made(Due.TIDE + TWO);
        Due.is("just deep now", 0, x.sail(0, 12, 1, 0));
        Due.is("an inch more", 1, x.sail(0, 13, 1, 0));
        Due.is("just deep in HOUR 1", 1, x.sail(0, 18, 1, 0));
        x.hours(4);
        Due.is("from now on", 0, x.sail(0, 42, 1, 0));
        Due.is("from now on", 1, x.sail(0, 43, 1, 0));
    }

    /** A pool that gets 10 in HOURS 0, 12, 24 .. and never gives: 10 behind HOUR 0, 20 behind 12, 30 behind 24. */
    private static TideDebts growing() {
        return Due.made("tide 0 10 0 0 0 0 0 0 0 0 0 0;water pool 0 10;");
    }

    private static void sailOutBy24AtMost() {
        Due.sentence("3 FORETOLD", "24 at most) in which its DEPTH is d or more");
        TideDebts x = growing();
        Due.is("25", NONE, x.sail(0, 30, 1, 0));
        Due.is("25, and no home", NONE, x.sail(0, 30, 1, 1));
        x.hours(1);
        Due.is("24", 24, x.sail(0, 30, 1, 0));
        Due.is("24, and home", 25, x.sail(0, 30, 1, 1));
        Due.is("36", NONE, x.sail(0, 40, 1, 0));
    }

    private static void sailHomeByMOrMore() {
        Due.sentence("3 FORETOLD", "the first one, m HOURS (1 to 24) or more behind that");
        // 43 deep in HOURS 5, 17, 29; 42 or more in 4 to 6, 16 to 18, 28 to 30
        TideDebts x = Due.made(Due.TIDE + TWO);
        int[][] due = {{43, 1, 17}, {43, 11, 17}, {43, 12, 17}, {43, 13, 29}, {43, 24, 29}, {42, 1, 5}, {42, 2, 6},
            {42, 3, 16}, {42, 12, 16}, {42, 13, 17}, {42, 14, 18}, {42, 15, 28}, {42, 24, 28}, {0, 1, 1}, {0, 24, 24}};
        for (int[] d : due) {
            Due.is("home of " + d[0] + " by " + d[1], d[2], x.sail(0, d[0], d[1], 1));
        }
        for (int m : new int[] {0, -1, 25, LEAST, MOST}) {
            Due.is("out, m " + m, BAD, x.sail(0, 12, m, 0));
            Due.is("home, m " + m, BAD, x.sail(0, 12, m, 1));
        }
    }

    private static void sailHomeBy48AtMost() {
        Due.sentence("3 FORETOLD", "(48 at most from now on), in which it is so");
        TideDebts x = growing();
        x.hours(1);
        Due.is("out in 24, 24 or more behind that", 48, x.sail(0, 30, 24, 1));
        // A storm's 4 inches go with the first ebb; what is left of a round is an inch, so that 4 are there in 48
        TideDebts y = Due.made("tide 20 15 14 14 14 14 14 14 14 14 14 14;water pool 0 15;");
        y.storm(1);
        Due.is("out now", 0, y.sail(0, 4, 1, 0));
        Due.is("home in 48", 48, y.sail(0, 4, 1, 1));
        // 5 inches by a storm, and an inch a round: 5 are there again in 49
        TideDebts z = Due.made("tide 10 11 6 5 10 10 10 10 10 10 10 10;water pool 0 6;");
        z.storm(8);
        Due.is("a storm of 5", 5, z.water(0, 0));
        Due.is("out now", 0, z.sail(0, 5, 2, 0));
        Due.is("not in 48", 4, z.ahead(0, 48, 0));
        Due.is("home in 49", NONE, z.sail(0, 5, 2, 1));
        z.hours(1);
        Due.is("in 48 from now on", 48, z.sail(0, 5, 1, 1));
    }

    private static void sailOfDraughts() {
        Due.sentence("Promise 18", "SAIL (d 0 to 999)");
        TideDebts x = Due.made("tide 0 40 0 40 0 40 0 40 0 40 0 40;water pool 0 40;water cove 0 0;");
        for (int i = 0; i < 5; i++) {
            x.hours(12);
        }
        Due.is("0 in one that is dry", 0, x.sail(1, 0, 1, 0));
        Due.is("1200 deep", 1200, x.water(0, 0));
        Due.is("999", 0, x.sail(0, 999, 24, 0));
        Due.is("999, home", 24, x.sail(0, 999, 24, 1));
        for (int d : new int[] {-1, 1000, LEAST, MOST}) {
            Due.is("out, d " + d, BAD, x.sail(0, d, 1, 0));
            Due.is("home, d " + d, BAD, x.sail(0, d, 1, 1));
        }
    }

    private static void sailNever() {
        Due.sentence("Promise 18", "out (what = 0), home (1); NONE");
        TideDebts x = Due.made(Due.TIDE + TWO);
        Due.is("out", NONE, x.sail(0, 44, 1, 0));
        Due.is("no home without a way out", NONE, x.sail(0, 44, 1, 1));
        // Eleven floods of 1 give a lagoon nothing, the ebb of 11 takes 5: it falls dry, and stays so
        TideDebts y = Due.made("tide 0 1 2 3 4 5 6 7 8 9 10 11;water lagoon 5 0;");
        Due.is("out, and never home", 0, y.sail(0, 1, 12, 0));
        Due.is("never home", NONE, y.sail(0, 1, 12, 1));
        Due.is("home in the last HOUR of it", 11, y.sail(0, 1, 11, 1));
    }

    private static void sailOfNoSuchThing() {
        Due.sentence("Promise 18", "BAD");
        TideDebts x = Due.made(Due.TIDE + TWO);
        for (int w : NO_WATERS) {
            Due.is("water " + w, BAD, x.sail(w, 0, 1, 0));
        }
        for (int what : new int[] {-1, 2, LEAST, MOST}) {
            Due.is("what " + what, BAD, x.sail(0, 0, 1, what));
        }
        Due.is("BAD, not NONE", BAD, x.sail(0, 999, 1, 2));
        Due.is("without a bay", BAD, new TideDebts().sail(0, 0, 1, 0));
    }

    private static String dykes(int n) {
        return Due.SPRING + "water dyke 50 0;".repeat(n);
    }

    private static void netOfNoBalance() {
        Due.sentence("3 FORETOLD", "as long as there is a BALANCE above 0");
        TideDebts x = Due.made(dykes(3));
        Due.is("no debt", 0, x.net(-1, 0));
        x.lend(0, 1, 5);
        x.lend(1, 0, 5);
        Due.is("two debts, no balance", 0, x.net(-1, 0));
        x.lend(0, 1, 5);
        Due.is("a balance", 1, x.net(-1, 0));
        Due.is("a bay without waters", 0, Due.made(Due.SPRING).net(-1, 0));
    }

    private static void gifts(TideDebts x, int[]... due) {
        Due.is("gifts", due.length, x.net(-1, 0));
        for (int k = 0; k < due.length; k++) {
            for (int what = 0; what < 3; what++) {
                Due.is("gift " + k + ", " + what, due[k][what], x.net(k, what));
            }
        }
        Due.is("one more", NONE, x.net(due.length, 0));
    }

    private static void netOfTheFirstOnes() {
        Due.sentence("3 FORETOLD", "the first WATER with such a one gives the first one with one below 0");
        TideDebts x = Due.made(dykes(6));
        x.lend(5, 0, 30);
        x.lend(4, 1, 20);
        x.lend(3, 2, 10);
        gifts(x, new int[] {0, 3, 10}, new int[] {0, 4, 20}, new int[] {1, 5, 20}, new int[] {2, 5, 10});
        TideDebts y = Due.made(dykes(6));
        y.lend(0, 5, 30);
        y.lend(1, 4, 20);
        y.lend(2, 3, 10);
        gifts(y, new int[] {3, 0, 10}, new int[] {4, 0, 20}, new int[] {5, 1, 20}, new int[] {5, 2, 10});
    }

    private static void netOfTheLesser() {
        Due.sentence("3 FORETOLD", "the lesser of both (without signs)");
        TideDebts x = Due.made(dykes(2));
        x.lend(0, 1, 7);
        gifts(x, new int[] {1, 0, 7});
        x = Due.made(dykes(4));
        x.lend(0, 1, 7);
        x.lend(2, 3, 7);
        gifts(x, new int[] {1, 0, 7}, new int[] {3, 2, 7});
        x = Due.made(dykes(6));
        for (int to = 1; to < 6; to++) {
            x.lend(0, to, to);
        }
        gifts(x, new int[] {1, 0, 1}, new int[] {2, 0, 2}, new int[] {3, 0, 3}, new int[] {4, 0, 4}, new int[] {5, 0, 5});
        x = Due.made(dykes(6));
        for (int from = 0; from < 5; from++) {
            x.lend(from, 5, from + 1);
        }
        gifts(x, new int[] {5, 0, 1}, new int[] {5, 1, 2}, new int[] {5, 2, 3}, new int[] {5, 3, 4}, new int[] {5, 4, 5});
        x = Due.made(dykes(6));
        x.lend(3, 0, 10);
        x.lend(4, 1, 6);
        x.lend(5, 2, 11);
        x.lend(4, 0, 1);
        // balances 11, 6, 11, -10, -7, -11
        gifts(x, new int[] {0, 3, 10}, new int[] {0, 4, 1}, new int[] {1, 4, 6}, new int[] {2, 5, 11});
    }

    private static void netCanBe() {
        Due.sentence("3 FORETOLD", "It CAN be, if each has as much DEPTH as its BALANCE");
        for (int left = 3; left <= 7; left++) {
            TideDebts x = Due.made("tide 20 " + (5 + left) + " 20 0 20 0 20 0 20 0 20 0;"
                + "water dyke 0 0;water cove 10 0;water dyke 10 0;");
            Due.is("without debts", 1, x.net(-2, 0));
            x.lend(2, 1, 5);
            x.hours(1);
            Due.is("depth", left, x.water(1, 0));
            Due.is("can be with " + left + " for 5", left >= 5 ? 1 : 0, x.net(-2, 0));
            Due.is("a gift all the same", 1, x.net(-1, 0));
        }
        Due.is("a bay without waters", 1, Due.made(Due.NEAP).net(-2, 0));
        for (int debtor = 0; debtor < 6; debtor++) {
            TideDebts y = Due.made(Due.SPRING + "water cove 9 0;".repeat(6));
            y.lend((debtor + 1) % 6, debtor, 1);
            Due.is("10 for 1", 1, y.net(-2, 0));
            y.hours(1);
            Due.is("0 for 1", 0, y.net(-2, 0));
        }
    }

    private static void netOfNotSoMany() {
        Due.sentence("Promise 19", "NONE: not so many");
        TideDebts x = Due.made(dykes(2));
        Due.is("0 of none", NONE, x.net(0, 0));
        x.lend(0, 1, 5);
        Due.is("0 of 1", 5, x.net(0, 2));
        for (int what = 0; what < 3; what++) {
            Due.is("1 of 1, " + what, NONE, x.net(1, what));
        }
        Due.is("6", NONE, x.net(6, 0));
        Due.is("the most", NONE, x.net(MOST, 0));
    }

    private static void netOfNoSuchThing() {
        Due.sentence("Promise 19", "BAD: k below -2, what (also with -1, -2)");
        TideDebts x = Due.made(dykes(2));
        x.lend(0, 1, 5);
        for (int k : new int[] {-3, LEAST}) {
            Due.is("k " + k, BAD, x.net(k, 0));
        }
        for (int what : new int[] {-1, 3, LEAST, MOST}) {
            for (int k : new int[] {-3, -2, -1, 0, 1, MOST}) {
                Due.is("k " + k + ", what " + what, BAD, x.net(k, what));
            }
        }
        for (int what = 0; what < 3; what++) {
            Due.is("k -1, what " + what, 1, x.net(-1, what));
            Due.is("k -2, what " + what, 1, x.net(-2, what));
        }
    }

    private static void netWithoutABay() {
        Due.sentence("Promise 19", "STATE: no BAY (ahead of BAD)");
        TideDebts x = new TideDebts();
        for (int k : new int[] {-3, -2, -1, 0, 1, LEAST, MOST}) {
            for (int what = -1; what <= 3; what++) {
                Due.is("k " + k + ", what " + what, STATE, x.net(k, what));
            }
        }
    }

    private static void leastOf0ToAll() {
        Due.sentence("3 FORETOLD", "the least (0 to what that one has); NONE");
        TideDebts x = Due.made(Due.TIDE + TWO);
        Due.is("there already", 0, x.least(0, 1, 12, 0));
        Due.is("1", 1, x.least(0, 1, 13, 0));
        Due.is("one less than all", 49, x.least(0, 1, 61, 0));
        Due.is("all", 50, x.least(0, 1, 62, 0));
        Due.is("one more than all", NONE, x.least(0, 1, 63, 0));
        x.lend(1, 0, 50);
        Due.is("of one that has nothing, there already", 0, x.least(0, 1, 62, 0));
        Due.is("of one that has nothing", NONE, x.least(0, 1, 63, 0));
        // The pool has 1200, more than a LOAN of one call; the ebb takes 40 from the dry cove
        TideDebts y = Due.made(Due.SPRING + "water pool 0 40;water dyke 0 0;water cove 0 0;");
        for (int i = 0; i < 5; i++) {
            y.hours(12);
        }
        Due.is("the pool has", 1200, y.water(0, 0));
        Due.is("999", 999, y.least(1, 0, 999, 0));
        Due.is("999 behind the ebb", 1039, y.least(2, 0, 999, 1));
        Due.is("999 behind the flood", 999, y.least(2, 0, 999, 2));
    }

    private static void leastOfDepths() {
        Due.sentence("3 FORETOLD", "its DEPTH is d (0 to 999) or more");
        TideDebts x = Due.made(Due.TIDE + TWO);
        Due.is("0", 0, x.least(0, 1, 0, 0));
        Due.is("999", NONE, x.least(0, 1, 999, 0));
        for (int d : new int[] {-1, 1000, LEAST, MOST}) {
            Due.is("d " + d, BAD, x.least(0, 1, d, 0));
        }
    }

    private static void leastBehindHours() {
        Due.sentence("3 FORETOLD", "behind n HOURS (0 to 24)");
        TideDebts x = Due.made(Due.TIDE + TWO);
        int[] depths = {12, 18, 26, 34, 42, 43, 42, 34, 26, 18, 13, 12};
        for (int n = 0; n <= 24; n++) {
            Due.is("behind " + n, 50 - depths[n % 12], x.least(0, 1, 50, n));
        }
        for (int n : new int[] {-1, 25, LEAST, MOST}) {
            Due.is("n " + n, BAD, x.least(0, 1, 0, n));
        }
        // An ebb of 40 out of 12: 28 of arrears; a loan is there behind it from its 29th inch on
        TideDebts y = Due.made(Due.SPRING + "water cove 12 0;water dyke 50 0;");
        Due.is("behind the ebb, 0", 0, y.least(0, 1, 0, 1));
        Due.is("behind the ebb, 1", 29, y.least(0, 1, 1, 1));
        Due.is("behind the ebb, 22", 50, y.least(0, 1, 22, 1));
        Due.is("behind the ebb, 23", NONE, y.least(0, 1, 23, 1));
    }

    private static void leastAlike() {
        Due.sentence("Promise 20", "BAD: alike, too");
        TideDebts x = Due.made(Due.TIDE + TWO);
        Due.is("0 and 0", BAD, x.least(0, 0, 0, 0));
        Due.is("1 and 1", BAD, x.least(1, 1, 0, 0));
        for (int w : NO_WATERS) {
            Due.is(w + " from 0", BAD, x.least(w, 0, 0, 0));
            Due.is("0 from " + w, BAD, x.least(0, w, 0, 0));
        }
        Due.is("without a bay", BAD, new TideDebts().least(0, 1, 0, 0));
    }

    private static void runInOrder() {
        Due.sentence("3 FORETOLD", "each, in order, pays what it owes to others, in order");
        // 0 has 10 and owes 1 ten, which owes 2 ten, which owes 3 ten: each is paid ahead of its turn
        TideDebts x = Due.made(Due.SPRING + "water dyke 0 0;water dyke 0 0;water dyke 0 0;water dyke 10 0;");
        x.lend(3, 2, 10);
        x.lend(2, 1, 10);
        x.lend(1, 0, 10);
        Due.is("paid in time", 0, x.run());
        // 3 owes 2, 2 owes 1, 1 owes 0, and 1 and 2 have nothing
        TideDebts y = Due.made(Due.SPRING + "water dyke 10 0;water dyke 0 0;water dyke 0 0;water dyke 0 0;");
        y.lend(0, 1, 10);
        y.lend(1, 2, 10);
        y.lend(2, 3, 10);
        Due.is("paid too late", 6, y.run());
        // 0 has 4 for the 6 that it owes 1 and the 6 that it owes 2; both need 4 for what they owe 3
        TideDebts z = Due.made(Due.SPRING + "water dyke 0 0;water dyke 2 0;water dyke 2 0;water dyke 50 0;");
        z.lend(3, 1, 4);
        z.lend(3, 2, 4);
        z.lend(1, 0, 6);
        z.lend(2, 0, 6);
        z.lend(0, 3, 8);
        Due.is("the first of the others gets it", 5, z.run());
    }

    private static void runAsFarAsItGoes() {
        Due.sentence("3 FORETOLD", "as far as it has DEPTH (with what has come to it by then): WATERS (bits) that do not pay all");
        int[][] due = {{5, 1}, {9, 1}, {10, 0}, {11, 0}};
        for (int[] d : due) {
            // 0 owes 1 ten and has d; 1 owes 2 d and has nothing else: what it gets does for it
            TideDebts x = Due.made("tide 40 " + (25 + d[0]) + " 0 9 0 9 0 9 0 9 0 9;water cove 5 0;water dyke 10 0;water dyke 20 0;");
            x.lend(1, 0, 10);
            x.lend(2, 1, Math.min(d[0], 10));
            x.lend(1, 2, Math.min(d[0], 10));
            x.hours(1);
            Due.is("depth of 0", d[0], x.water(0, 0));
            Due.is("depth of 1", 0, x.water(1, 0));
            Due.is("run with " + d[0] + " for 10", d[1], x.run());
            Due.is("nothing changes", d[0], x.water(0, 0));
            Due.is("nothing is paid", 10, x.owes(0, 1));
        }
        TideDebts y = Due.made(Due.SPRING + "water dyke 0 0;water dyke 0 0;");
        Due.is("who owes nothing pays all of it", 0, y.run());
    }

    private static void runOfSix() {
        Due.sentence("Terms", "Sets are bits.");
        for (int debtor = 0; debtor < 6; debtor++) {
            TideDebts x = Due.made(Due.SPRING + "water cove 1 0;".repeat(6));
            int other = debtor == 0 ? 5 : 0;
            x.lend(other, debtor, 1);
            x.hours(1);
            Due.is("one that can not pay", 1 << debtor, x.run());
        }
        TideDebts y = Due.made(Due.SPRING + "water cove 1 0;".repeat(6));
        for (int w = 0; w < 6; w++) {
            y.lend(w, (w + 1) % 6, 1);
        }
        y.hours(1);
        Due.is("all six", 63, y.run());
    }

    private static void runWithoutABay() {
        Due.sentence("Promise 21", "STATE: no BAY");
        Due.is("a new object", STATE, new TideDebts().run());
        Due.is("a bay without waters is one", 0, Due.made(Due.NEAP).run());
    }

    private static void fraudsBehindTheNextHour() {
        Due.sentence("3 FORETOLD", "what DEPTH each WATER has behind the HOUR that is to come");
        TideDebts x = Due.made(Due.TIDE + "water cove 12 0;water dyke 50 0;");
        x.row(0, 2, 2);
        x.set(0, 1, 50);
        for (int told = 17; told <= 19; told++) {
            x.set(0, 0, told);
            Due.is("told " + told + " for 18", told == 18 ? 0 : 1, x.frauds(0, 0));
        }
        x.set(0, 0, 12);
        Due.is("what it has now", 1, x.frauds(0, 0));
        x.hours(1);
        x.set(0, 0, 26);
        Due.is("of the HOUR behind that", 0, x.frauds(0, 0));
        Due.is("no HOUR goes by", 1, x.count(2));
    }

    private static void fraudsOfSix() {
        Due.sentence("3 FORETOLD", "WATERS (bits) of which that is not so");
        TideDebts x = Due.made(Due.SPRING + "water dyke 3 0;".repeat(6));
        x.row(0, 0, 6);
        Due.is("all", 63, x.frauds(0, 0));
        for (int w = 0; w < 6; w++) {
            x.set(0, w, 3);
        }
        Due.is("none", 0, x.frauds(0, 0));
        for (int w = 0; w < 6; w++) {
            x.set(0, w, 4);
            Due.is("water " + w, 1 << w, x.frauds(0, 0));
            x.set(0, w, 3);
        }
    }

    private static void fraudsOfAsManyItems() {
        Due.sentence("Promise 22", "as many ITEMS as there are WATERS, of a ROW from i on");
        TideDebts x = Due.made(Due.SPRING + "water dyke 0 0;".repeat(3));
        x.row(0, 0, 3);
        Due.is("3 of 3", 0, x.frauds(0, 0));
        for (int i : new int[] {-1, 1, 3, LEAST, MOST, MOST - 2}) {
            Due.is("from " + i, PLACE, x.frauds(0, i));
        }
        x.row(0, 0, 2);
        Due.is("3 of 2", PLACE, x.frauds(0, 0));
        x.row(0, 0, 0);
        Due.is("3 of none", PLACE, x.frauds(0, 0));
        x.row(0, 0, 40);
        Due.is("the last three of 40", 0, x.frauds(0, 37));
        Due.is("beyond the end", PLACE, x.frauds(0, 38));
        TideDebts y = Due.made(Due.SPRING);
        y.row(0, 0, 2);
        Due.is("no water: at the end", 0, y.frauds(0, 2));
        Due.is("no water: beyond it", PLACE, y.frauds(0, 3));
        Due.is("no water: ahead of it", PLACE, y.frauds(0, -1));
    }

    private static void fraudsOfNoSuchRow() {
        Due.sentence("Promise 22", "BAD: ROW");
        TideDebts x = Due.made(Due.SPRING + "water dyke 0 0;");
        for (int r : new int[] {-1, 8, LEAST, MOST}) {
            Due.is("row " + r, BAD, x.frauds(r, 0));
            Due.is("row " + r + ", from -1 on", BAD, x.frauds(r, -1));
        }
        x.row(7, 0, 1);
        Due.is("row 7", 0, x.frauds(7, 0));
    }

    private static void fraudsWithoutABay() {
        Due.sentence("Promise 22", "STATE: no BAY (ahead of BAD)");
        TideDebts x = new TideDebts();
        x.row(0, 0, 6);
        Due.is("a row", STATE, x.frauds(0, 0));
        Due.is("no such row", STATE, x.frauds(8, 0));
        Due.is("a missing row", STATE, x.frauds(1, 0));
        Due.is("no such place", STATE, x.frauds(0, -1));
        x.set(0, 0, -1);
        Due.is("an item below 0", STATE, x.frauds(0, 0));
    }

    private static void fraudsOfMissingRow() {
        Due.sentence("Promise 22", "NULL");
        TideDebts x = Due.made(Due.SPRING + "water dyke 0 0;");
        Due.is("missing", NULL, x.frauds(0, 0));
        Due.is("missing, no such place", NULL, x.frauds(0, -1));
        x.row(0, 0, 1);
        x.drop(0);
        Due.is("dropped", NULL, x.frauds(0, 0));
    }

    private static void fraudsOfAnItemBelow0() {
        Due.sentence("Promise 22", "then BAD: an ITEM below 0");
        for (int lane = 0; lane < 3; lane++) {
            TideDebts x = Due.made(Due.SPRING + "water dyke 0 0;water dyke 0 0;");
            x.row(0, lane, 4);
            for (int i = 0; i < 4; i++) {
                x.set(0, i, -1);
                for (int from = 0; from <= 2; from++) {
                    boolean within = i == from || i == from + 1;
                    Due.is("item " + i + " below 0, told from " + from, within ? BAD : 0, x.frauds(0, from));
                }
                Due.is("PLACE comes ahead of it", PLACE, x.frauds(0, 3));
                x.set(0, i, 0);
            }
        }
        TideDebts y = Due.made(Due.SPRING + "water dyke 0 0;");
        y.row(0, 0, 1);
        Due.is("128 in a byte", -128, y.set(0, 0, 128));
        Due.is("is below 0", BAD, y.frauds(0, 0));
    }

    private static void imagesAreTwo() {
        Due.sentence("Promise 23", "An IMAGE (0, 1) is kept of the BAY: 1. BAD");
        TideDebts x = Due.made(Due.SPRING + TWO);
        Due.is("0", 1, x.image(0));
        Due.is("1", 1, x.image(1));
        Due.is("0 again", 1, x.image(0));
        for (int k : new int[] {-1, 2, LEAST, MOST}) {
            Due.is("image " + k, BAD, x.image(k));
            Due.is("image " + k + " without a bay", BAD, new TideDebts().image(k));
        }
        Due.is("a bay without waters", 1, Due.made(Due.NEAP).image(1));
    }

    private static void imageWithoutABay() {
        Due.sentence("Promise 23", "STATE: no BAY");
        TideDebts x = new TideDebts();
        Due.is("0", STATE, x.image(0));
        Due.is("1", STATE, x.image(1));
        Due.bay(x, "tide");
        Due.is("behind a fault", STATE, x.image(0));
        Due.is("none was kept", STATE, x.restore(0));
    }

    private static void restoreOfNone() {
        Due.sentence("Promise 24", "BAD; STATE: none was kept");
        TideDebts x = new TideDebts();
        for (int k : new int[] {-1, 2, LEAST, MOST}) {
            Due.is("restore " + k, BAD, x.restore(k));
        }
        Due.is("0", STATE, x.restore(0));
        Due.is("1", STATE, x.restore(1));
        Due.bay(x, Due.SPRING + TWO);
        Due.is("0 of a bay", STATE, x.restore(0));
        x.image(1);
        Due.is("0 beside 1", STATE, x.restore(0));
        Due.is("1", 1, x.restore(1));
        x.image(0);
        Due.is("0", 1, x.restore(0));
        Due.is("2", BAD, x.restore(2));
    }

    private static void restoreLeavesNoAct() {
        Due.sentence("Promise 24", "(no ACT can be undone then): 1");
        TideDebts x = Due.made(Due.SPRING + TWO);
        x.lend(1, 0, 5);
        x.hours(2);
        Due.is("image", 1, x.image(0));
        Due.is("acts behind an image", 3, x.count(4));
        Due.is("restore", 1, x.restore(0));
        Due.is("acts", 0, x.count(4));
        Due.is("undo", STATE, x.undo());
        x.hours(1);
        Due.is("an act of its own", 0, x.undo());
        Due.is("HOUR", 2, x.count(2));
        Due.is("debt", 5, x.owes(0, 1));
    }

    private static void anImageIsOfItsOwn() {
        Due.sentence("Promise 24", "The BAY is as an IMAGE kept it");
        TideDebts x = Due.made(Due.NEAP + "water cove 30 0;water lagoon 10 4;water well 3 0;");
        x.lend(0, 1, 20);
        x.hours(2);
        x.storm(5);
        x.image(0);
        String was = Due.bayOf(x);
        x.hours(10);
        x.settle();
        x.image(1);
        String later = Due.bayOf(x);
        Due.bay(x, Due.SPRING + "water dyke 1 1;");
        Due.is("restore 0", 1, x.restore(0));
        Due.same("image 0", was, Due.bayOf(x));
        x.lend(1, 0, 1);
        x.hours(1);
        x.storm(1);
        Due.is("restore 1", 1, x.restore(1));
        Due.same("image 1", later, Due.bayOf(x));
        Due.is("restore 0 again", 1, x.restore(0));
        Due.same("image 0 yet", was, Due.bayOf(x));
        Due.is("a bay without waters", 0, Due.bay(x, Due.TIDE));
        x.image(0);
        x.restore(1);
        Due.same("image 1 yet", later, Due.bayOf(x));
        x.restore(0);
        Due.is("waters", 0, x.count(1));
        Due.is("its tide", 6, x.hours(1));
    }
}
