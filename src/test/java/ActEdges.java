/** The sentences of "2", "ACTS" and of promises 9 to 16 and 29 that name an edge, a method each. */
final class ActEdges {
    private static final int BAD = TideDebts.BAD, STATE = TideDebts.STATE, FULL = TideDebts.FULL;
    private static final int LEAST = Integer.MIN_VALUE, MOST = Integer.MAX_VALUE;
    private static final String DYKES = "water dyke 50 0;water dyke 50 0;water dyke 50 0;";

    private ActEdges() {
    }

    static void all() {
        Due.each(
            ActEdges::ofHours, ActEdges::ofDebts, ActEdges::ofActs, ActEdges::ofPromises, ActEdges::ofCounts);
    }

    private static void ofHours() {
        Due.each(
            ActEdges::theRiseWrapsAround, ActEdges::aLagoonGetsHalfCut, ActEdges::aPoolAtItsSill,
            ActEdges::aWellInHour0, ActEdges::aDykeGetsNothing, ActEdges::whatItGetsGoesAgainstArrears,
            ActEdges::whatIsNotThereIsArrears);
    }

    private static void ofDebts() {
        Due.each(
            ActEdges::neapIsWithinOne, ActEdges::aTenthIsCut, ActEdges::aDebtIs9999AtMost);
    }

    private static void ofActs() {
        Due.each(
            ActEdges::twentyFourActsAreKept, ActEdges::ofMoreTheOldestIsForgotten, ActEdges::theLatestIsUndoneFirst,
            ActEdges::anHourIsAnAct, ActEdges::aLoanMovesDepth, ActEdges::aStormDrawsBeyondAnInt,
            ActEdges::aNetOfARingMovesNothing);
    }

    private static void ofPromises() {
        Due.each(
            ActEdges::hoursAre1To24, ActEdges::hoursWithoutABay, ActEdges::hoursBeyond999, ActEdges::lendAlike,
            ActEdges::lendOfTooFewOrTooMany, ActEdges::lendOfMoreThanThereIs, ActEdges::lendAboveTheMostDebt,
            ActEdges::payAlike, ActEdges::payOfTooFewOrTooMany, ActEdges::payOfMoreThanIsOwed,
            ActEdges::payOfMoreThanThereIs, ActEdges::stormOfSeeds, ActEdges::stormWithoutABay,
            ActEdges::settleWithoutABay, ActEdges::settleThatCannotBe, ActEdges::undoOfNone,
            ActEdges::undoTellsHowMany, ActEdges::waterOfNoSuchThing, ActEdges::owesAlike);
    }

    private static void state(TideDebts x, String when, int... depthsAndArrears) {
        for (int w = 0; w < depthsAndArrears.length / 2; w++) {
            Due.is(when + ": depth " + w, depthsAndArrears[2 * w], x.water(w, 0));
            Due.is(when + ": arrears " + w, depthsAndArrears[2 * w + 1], x.water(w, 1));
        }
    }

    private static void theRiseWrapsAround() {
        Due.sentence("2", "RISE: the LEVEL of the next HOUR less that of this one (below 0: ebb)");
        TideDebts x = Due.made("tide 7 7 7 7 7 7 7 7 7 7 7 40;water cove 50 0;");
        Due.is("HOUR 10", 33, x.hours(11));
        Due.is("HOUR 11: the next is HOUR 12, of LEVEL 7", -33, x.hours(1));
        state(x, "ebb", 50, 0);
        Due.is("HOUR 12", 0, x.hours(1));
        Due.is("HOUR 22", 33, x.hours(10));
        Due.is("HOUR 23", -33, x.hours(1));
    }

    private static void aLagoonGetsHalfCut() {
        Due.sentence("2", "a lagoon half of it (cut)");
        TideDebts x = Due.made("tide 10 11 10 13 10 17 10 10 10 10 0 40;water lagoon 50 0;");
        int[][] due = {{1, 50}, {-1, 50}, {3, 51}, {-3, 50}, {7, 53}, {-7, 50}, {0, 50}, {0, 50}, {0, 50}, {-10, 45},
            {40, 65}, {-30, 50}};
        for (int[] d : due) {
            Due.is("RISE", d[0], x.hours(1));
            state(x, "behind a RISE of " + d[0], d[1], 0);
        }
    }

    private static void aPoolAtItsSill() {
        Due.sentence("2", "if the LEVEL of the next HOUR is its SILL or more, else nothing");
        TideDebts x = Due.made("tide 14 15 14 16 15 15 14 0 40 39 40 0;"
            + "water pool 50 15;water pool 50 0;water pool 50 40;");
        int[][] due = {{1, 51, 51, 50}, {-1, 51, 50, 50}, {2, 53, 52, 50}, {-1, 52, 51, 50}, {0, 52, 51, 50},
            {-1, 52, 50, 50}, {-14, 52, 36, 50}, {40, 92, 76, 90}, {-1, 91, 75, 90}, {1, 92, 76, 91}, {-40, 92, 36, 91},
            {14, 92, 50, 91}, {1, 93, 51, 91}};
        for (int h = 0; h < due.length; h++) {
            Due.is("RISE of HOUR " + h, due[h][0], x.hours(1));
            state(x, "behind HOUR " + h, due[h][1], 0, due[h][2], 0, due[h][3], 0);
        }
    }

    private static void aWellInHour0() {
        Due.sentence("2", "(ahead of HOUR 0 there was HOUR 11, always)");
        TideDebts x = Due.made("tide 5 9 9 9 9 9 9 9 9 9 9 1;water well 20 0;water well 0 40;");
        int[] due = {24, 28, 28, 28, 28, 28, 28, 28, 28, 28, 28, 20, 24, 28};
        for (int h = 0; h < due.length; h++) {
            x.hours(1);
            state(x, "behind HOUR " + h, due[h], 0, due[h] - 20, 0);
        }
        TideDebts y = Due.made("tide 0 0 0 0 0 0 0 0 0 0 0 9;water well 5 0;");
        y.hours(1);
        state(y, "HOUR 11 was an ebb", 0, 4);
    }

    private static void aDykeGetsNothing() {
        Due.sentence("2", "a dyke nothing");
        TideDebts x = Due.made(Due.SPRING + "water dyke 0 0;water dyke 7 40;");
        for (int h = 0; h < 13; h++) {
            x.hours(1);
            state(x, "behind HOUR " + h, 0, 0, 7, 0);
        }
    }

    private static void whatItGetsGoesAgainstArrears() {
        Due.sentence("2", "What it gets goes against its ARREARS, the rest comes to its DEPTH");
        int[][] due = {{0, 4, 4}, {1, 4, 3}, {3, 4, 1}, {4, 4, 0}, {5, 5, 0}, {40, 40, 0}};
        for (int[] d : due) {
            TideDebts x = Due.made("tide 0 " + d[0] + " 0 0 0 0 0 0 0 0 0 0;water cove 0 0;");
            x.storm(1);
            state(x, "a storm of 4", 4, 4);
            x.hours(1);
            state(x, "behind a flood of " + d[0], d[1], d[2]);
        }
    }

    private static void whatIsNotThereIsArrears() {
        Due.sentence("2", "what it is to give comes from its DEPTH, what is not there is ARREARS more");
        int[][] due = {{0, 5, 0}, {1, 4, 0}, {4, 1, 0}, {5, 0, 0}, {6, 0, 1}, {40, 0, 35}};
        for (int[] d : due) {
            TideDebts x = Due.made("tide 40 " + (40 - d[0]) + " 40 40 40 40 40 40 40 40 40 40;water cove 5 0;water cove 0 0;");
            x.hours(1);
            state(x, "behind an ebb of " + d[0], d[1], d[2], 0, d[0]);
        }
        TideDebts y = Due.made("tide 40 34 0 40 40 40 40 40 40 40 40 40;water cove 0 0;");
        y.storm(1);
        y.hours(1);
        state(y, "of 4 deep with arrears of 4, an ebb of 6", 0, 6);
        y.hours(1);
        state(y, "more of it", 0, 40);
    }

    private static void neapIsWithinOne() {
        Due.sentence("2", "if RISE is -1, 0 or 1 (NEAP)");
        for (int rise = -3; rise <= 3; rise++) {
            TideDebts x = Due.made("tide 20 " + (20 + rise) + " 0 9 0 9 0 9 0 9 0 9;" + DYKES);
            x.lend(0, 1, 50);
            Due.is("RISE", rise, x.hours(1));
            Due.is("a debt behind a RISE of " + rise, Math.abs(rise) <= 1 ? 55 : 50, x.owes(1, 0));
        }
    }

    private static void aTenthIsCut() {
        Due.sentence("2", "each debt of one WATER to another is a tenth (cut) more");
        int[][] due = {{1, 1}, {9, 9}, {10, 11}, {11, 12}, {19, 20}, {20, 22}, {29, 31}};
        for (int[] d : due) {
            TideDebts x = Due.made(Due.NEAP + DYKES);
            x.lend(0, 1, d[0]);
            x.lend(2, 0, d[0]);
            x.lend(1, 0, d[0]);
            x.hours(1);
            Due.is("1 to 0 of " + d[0], d[1], x.owes(1, 0));
            Due.is("0 to 2 of " + d[0], d[1], x.owes(0, 2));
            Due.is("0 to 1 of " + d[0], d[1], x.owes(0, 1));
            Due.is("debts", 3, x.count(5));
            Due.is("depths stay", 150, x.count(3));
        }
    }

    /** One that owes another 9157, which has lent 189 and seen 41 NEAP HOURS; it has 389 inches, the other one 11. */
    private static TideDebts inDebt() {
        TideDebts x = Due.made(Due.NEAP + "water dyke 200 0;water dyke 200 0;");
        x.lend(0, 1, 189);
        x.hours(20);
        x.hours(21);
        Due.is("the debt", 9157, x.owes(1, 0));
        return x;
    }

    private static void aDebtIs9999AtMost() {
        Due.sentence("2", "9999 at most");
        int[][] due = {{68, 9997}, {67, 9999}, {66, 9999}, {1, 9999}};
        for (int[] d : due) {
            TideDebts x = inDebt();
            x.pay(1, 0, d[0]);
            x.hours(1);
            Due.is("a tenth more of " + (9157 - d[0]), d[1], x.owes(1, 0));
            x.hours(2);
            Due.is("no more", 9999, x.owes(1, 0));
        }
    }

    private static void twentyFourActsAreKept() {
        Due.sentence("ACTS", "24 at most are kept");
        TideDebts x = Due.made(Due.NEAP + DYKES);
        for (int i = 1; i <= 30; i++) {
            x.lend(0, 1, 1);
            Due.is("acts behind " + i, Math.min(i, 24), x.count(4));
        }
    }

    private static void ofMoreTheOldestIsForgotten() {
        Due.sentence("ACTS", "of more the oldest is forgotten");
        for (int acts = 23; acts <= 26; acts++) {
            TideDebts x = Due.made(Due.NEAP + DYKES);
            for (int i = 1; i <= acts; i++) {
                x.lend(0, 1, 1);
            }
            int kept = Math.min(acts, 24);
            for (int i = kept - 1; i >= 0; i--) {
                Due.is("undo", i, x.undo());
            }
            Due.is("what is owed behind all that can be undone of " + acts, acts - kept, x.owes(1, 0));
            Due.is("no more", STATE, x.undo());
        }
        TideDebts y = Due.made(Due.NEAP + DYKES);
        y.lend(0, 1, 5);
        y.hours(24);
        Due.is("24 HOURS behind a loan", 24, y.count(4));
        for (int i = 0; i < 24; i++) {
            y.undo();
        }
        Due.is("they are undone", 0, y.count(2));
        Due.is("the loan is not", 5, y.owes(1, 0));
        Due.is("it is forgotten", STATE, y.undo());
    }

    private static void theLatestIsUndoneFirst() {
        Due.sentence("ACTS", "each can be undone, the latest first");
        TideDebts x = Due.made(Due.NEAP + "water cove 30 0;water lagoon 10 0;water well 3 0;");
        String[] was = new String[6];
        for (int act = 0; act < 5; act++) {
            was[act] = Due.bayOf(x);
            int answer = switch (act) {
                case 0 -> x.lend(0, 1, 20);
                case 1 -> x.hours(1);
                case 2 -> x.storm(77);
                case 3 -> x.pay(1, 0, 3);
                default -> x.settle();
            };
            Due.is("act " + act + " is not refused", 1, answer >= 0 ? 1 : 0);
        }
        for (int act = 4; act >= 0; act--) {
            Due.is("undo of act " + act, act, x.undo());
            Due.same("as it was ahead of act " + act, was[act], Due.bayOf(x));
        }
    }

    private static void anHourIsAnAct() {
        Due.sentence("Promise 9", "an ACT each");
        TideDebts x = Due.made(Due.NEAP + "water cove 9 0;");
        x.hours(1);
        Due.is("one", 1, x.count(4));
        x.hours(2);
        Due.is("three", 3, x.count(4));
        Due.is("undo", 2, x.undo());
        Due.is("one HOUR less", 2, x.count(2));
        state(x, "as behind two", 11, 0);
        x.hours(24);
        Due.is("24 of 26", 24, x.count(4));
    }

    private static void aLoanMovesDepth() {
        Due.sentence("ACTS", "one gives another so many inches of its DEPTH, which that owes it");
        TideDebts x = Due.made(Due.NEAP + DYKES);
        Due.is("all that it has", 50, x.lend(0, 2, 50));
        state(x, "lent", 0, 0, 50, 0, 100, 0);
        Due.is("who got it owes", 50, x.owes(2, 0));
        Due.is("who gave does not", 0, x.owes(0, 2));
        Due.sentence("ACTS", "one PAYS another some of what it owes it, of its DEPTH");
        Due.is("some", 49, x.pay(2, 0, 1));
        Due.is("all the rest", 0, x.pay(2, 0, 49));
        state(x, "paid", 50, 0, 50, 0, 50, 0);
        Due.is("no debt", 0, x.count(5));
    }

    private static void aStormDrawsBeyondAnInt() {
        Due.sentence("ACTS", "X becomes the rest of (X times 16807) by 2147483647: the rest of that by 9");
        String six = "water dyke 0 0;water cove 0 0;water pool 0 40;water lagoon 0 0;water well 0 0;water dyke 10 0;";
        TideDebts x = Due.made(Due.NEAP + six);
        Due.is("SEED 1", 30, x.storm(1));
        state(x, "SEED 1", 4, 4, 7, 7, 5, 5, 2, 2, 4, 4, 18, 8);
        x.undo();
        Due.is("SEED 999999", 19, x.storm(999999));
        state(x, "SEED 999999", 2, 2, 7, 7, 0, 0, 0, 0, 7, 7, 13, 3);
        x.undo();
        Due.is("SEED 9", 29, x.storm(9));
        state(x, "SEED 9, of which the first gets none", 0, 0, 8, 8, 3, 3, 5, 5, 5, 5, 18, 8);
        Due.is("a storm for no water", 0, Due.made(Due.NEAP).storm(1));
    }

    private static void aNetOfARingMovesNothing() {
        Due.sentence("ACTS", "nobody owes anything to another one then");
        TideDebts x = Due.made(Due.NEAP + DYKES);
        x.lend(0, 1, 10);
        x.lend(1, 2, 10);
        x.lend(2, 0, 10);
        Due.is("debts", 3, x.count(5));
        Due.is("moved", 0, x.settle());
        Due.is("no debts", 0, x.count(5));
        state(x, "as before", 50, 0, 50, 0, 50, 0);
        Due.is("an act", 4, x.count(4));
        Due.is("undone", 3, x.undo());
        Due.is("debts again", 3, x.count(5));
        TideDebts y = Due.made(Due.NEAP + DYKES);
        Due.is("no debt: moved", 0, y.settle());
        Due.is("no debt: an act all the same", 1, y.count(4));
        Due.is("no water: moved", 0, Due.made(Due.NEAP).settle());
        TideDebts z = Due.made(Due.NEAP + DYKES + DYKES);
        for (int to = 1; to < 6; to++) {
            z.lend(0, to, to);
        }
        z.lend(5, 4, 5);
        Due.is("six waters: moved", 15, z.settle());
        Due.is("nothing more is moved", 0, z.settle());
        state(z, "settled", 50, 0, 50, 0, 50, 0, 50, 0, 50, 0, 50, 0);
        for (int from = 0; from < 6; from++) {
            Due.is("balance of " + from, 0, z.water(from, 3));
            for (int to = 0; to < 6; to++) {
                Due.is(from + " owes " + to, from == to ? BAD : 0, z.owes(from, to));
            }
        }
    }

    private static void hoursAre1To24() {
        Due.sentence("Promise 9", "n HOURS (1 to 24) go by");
        TideDebts x = Due.made(Due.TIDE + DYKES);
        for (int n : new int[] {0, -1, 25, LEAST, MOST}) {
            Due.is(n + " hours", BAD, x.hours(n));
        }
        Due.is("none is gone", 0, x.count(2));
        Due.is("1: RISE", 6, x.hours(1));
        Due.is("1 is gone", 1, x.count(2));
        Due.is("24: RISE of the last one", 6, x.hours(24));
        Due.is("25 are gone", 25, x.count(2));
        Due.is("2: RISE of the last one", 8, x.hours(2));
    }

    private static void hoursWithoutABay() {
        Due.sentence("Promise 9", "STATE: no BAY (ahead of BAD)");
        TideDebts x = new TideDebts();
        for (int n : new int[] {1, 24, 0, -1, 25, LEAST, MOST}) {
            Due.is(n + " hours", STATE, x.hours(n));
        }
        Due.is("a bay without waters is one", 6, Due.made(Due.TIDE).hours(1));
    }

    private static void hoursBeyond999() {
        Due.sentence("Promise 9", "FULL: more than 999 would be gone");
        TideDebts x = Due.made(Due.TIDE + DYKES);
        for (int i = 0; i < 41; i++) {
            x.hours(24);
        }
        Due.is("984 and 16", FULL, x.hours(16));
        Due.is("984 and 24", FULL, x.hours(24));
        Due.is("BAD comes ahead of it", BAD, x.hours(25));
        Due.is("none of them went by", 984, x.count(2));
        Due.is("984 and 15", 8, x.hours(15));
        Due.is("999 are gone", 999, x.count(2));
        Due.is("999 and 1", FULL, x.hours(1));
        Due.is("acts", 24, x.count(4));
        Due.is("undo", 23, x.undo());
        Due.is("998 and 2", FULL, x.hours(2));
        Due.is("998 and 1", 8, x.hours(1));
    }

    private static void noSuchTwo(String name, long... more) {
        TideDebts x = Due.made(Due.NEAP + DYKES);
        x.lend(1, 0, 5);
        x.lend(0, 1, 5);
        int[][] none = {{0, 0}, {2, 2}, {3, 0}, {0, 3}, {-1, 0}, {0, -1}, {LEAST, 0}, {0, MOST}, {3, 3}, {-1, -1}};
        for (int[] two : none) {
            long[] a = new long[2 + more.length];
            a[0] = two[0];
            a[1] = two[1];
            System.arraycopy(more, 0, a, 2, more.length);
            Due.is(name + " of " + two[0] + " and " + two[1], BAD, Calls.call(x, name, a));
        }
        Due.is("acts", 2, x.count(4));
    }

    private static void lendAlike() {
        Due.sentence("Promise 10", "BAD: alike");
        noSuchTwo("lend", 1);
    }

    private static void lendOfTooFewOrTooMany() {
        Due.sentence("Promise 10", "n not 1 to 999");
        TideDebts x = Due.made(Due.NEAP + "water dyke 200 0;".repeat(6));
        for (int from = 1; from < 6; from++) {
            x.lend(from, 0, 200);
        }
        Due.is("it has", 1200, x.water(0, 0));
        for (int n : new int[] {0, -1, 1000, 1200, LEAST, MOST}) {
            Due.is("a loan of " + n, BAD, x.lend(0, 1, n));
        }
        Due.is("a loan of 1", 1, x.lend(0, 1, 1));
        Due.is("a loan of 999", 1000, x.lend(0, 1, 999));
    }

    private static void lendOfMoreThanThereIs() {
        Due.sentence("Promise 10", "STATE: it has less DEPTH");
        TideDebts x = Due.made(Due.NEAP + "water dyke 7 0;water dyke 0 0;");
        Due.is("8 of 7", STATE, x.lend(0, 1, 8));
        Due.is("999 of 7", STATE, x.lend(0, 1, 999));
        Due.is("1000 of 7 is BAD first", BAD, x.lend(0, 1, 1000));
        Due.is("1 of 0", STATE, x.lend(1, 0, 1));
        Due.is("7 of 7", 7, x.lend(0, 1, 7));
        Due.is("1 of 0", STATE, x.lend(0, 1, 1));
    }

    private static void lendAboveTheMostDebt() {
        Due.sentence("Promise 10", "FULL: a debt above 9999");
        TideDebts x = inDebt();
        x.hours(1);
        Due.is("at most", 9999, x.owes(1, 0));
        Due.is("9999 and 1", FULL, x.lend(0, 1, 1));
        Due.is("9999 and 11", FULL, x.lend(0, 1, 11));
        Due.is("STATE comes ahead of it", STATE, x.lend(0, 1, 12));
        Due.is("a loan the other way is another debt", 1, x.lend(1, 0, 1));
        Due.is("paid", 9899, x.pay(1, 0, 100));
        Due.is("9899 and 101", FULL, x.lend(0, 1, 101));
        Due.is("9899 and 100", 9999, x.lend(0, 1, 100));
        Due.is("it has what it had", 12, x.water(0, 0));
    }

    private static void payAlike() {
        Due.sentence("Promise 11", "BAD: alike");
        noSuchTwo("pay", 1);
    }

    /** A pool that the sea fills by 200 a round, and that comes to owe a dyke 9999. */
    private static TideDebts rich() {
        TideDebts x = Due.made("tide 0 40 0 40 0 40 0 40 0 40 40 40;water pool 0 40;water dyke 200 0;");
        x.lend(1, 0, 200);
        for (int i = 0; i < 26; i++) {
            x.hours(24);
        }
        Due.is("it has", 200 + 52 * 200, x.water(0, 0));
        Due.is("it owes", 9999, x.owes(0, 1));
        return x;
    }

    private static void payOfTooFewOrTooMany() {
        Due.sentence("Promise 11", "n not 1 to 9999");
        TideDebts x = rich();
        for (int n : new int[] {0, -1, 10000, LEAST, MOST}) {
            Due.is("pay of " + n, BAD, x.pay(0, 1, n));
        }
        Due.is("pay of 1", 9998, x.pay(0, 1, 1));
        Due.is("undone", 23, x.undo());
        Due.is("pay of 9999", 0, x.pay(0, 1, 9999));
        Due.is("it came", 9999, x.water(1, 0));
    }

    private static void payOfMoreThanIsOwed() {
        Due.sentence("Promise 11", "STATE: it owes less");
        TideDebts x = Due.made(Due.NEAP + DYKES);
        Due.is("it owes nothing", STATE, x.pay(0, 1, 1));
        x.lend(1, 0, 20);
        Due.is("21 of 20", STATE, x.pay(0, 1, 21));
        Due.is("9999 of 20", STATE, x.pay(0, 1, 9999));
        Due.is("the other way", STATE, x.pay(1, 0, 1));
        Due.is("to another", STATE, x.pay(0, 2, 1));
        Due.is("20 of 20", 0, x.pay(0, 1, 20));
        Due.is("1 of 0", STATE, x.pay(0, 1, 1));
    }

    private static void payOfMoreThanThereIs() {
        Due.sentence("Promise 11", "or has less DEPTH");
        TideDebts x = Due.made(Due.NEAP + "water dyke 0 0;water dyke 50 0;water dyke 0 0;");
        x.lend(1, 0, 20);
        x.lend(0, 2, 15);
        Due.is("6 with 5", STATE, x.pay(0, 1, 6));
        Due.is("20 with 5", STATE, x.pay(0, 1, 20));
        Due.is("5 with 5", 15, x.pay(0, 1, 5));
        Due.is("1 with 0", STATE, x.pay(0, 1, 1));
    }

    private static void stormOfSeeds() {
        Due.sentence("Promise 12", "(SEED 1 to 999999): inches in all");
        TideDebts x = Due.made(Due.NEAP + DYKES);
        for (int seed : new int[] {0, -1, 1000000, LEAST, MOST}) {
            Due.is("SEED " + seed, BAD, x.storm(seed));
        }
        Due.is("acts", 0, x.count(4));
        Due.is("SEED 1", 16, x.storm(1));
        Due.is("SEED 999999", 9, x.storm(999999));
        Due.is("acts", 2, x.count(4));
    }

    private static void stormWithoutABay() {
        Due.sentence("Promise 12", "STATE: no BAY (ahead of BAD)");
        TideDebts x = new TideDebts();
        for (int seed : new int[] {1, 999999, 0, -1, 1000000}) {
            Due.is("SEED " + seed, STATE, x.storm(seed));
        }
    }

    private static void settleWithoutABay() {
        Due.sentence("Promise 13", "STATE: no BAY");
        TideDebts x = new TideDebts();
        Due.is("settle", STATE, x.settle());
        Due.is("a bay without waters is one", 0, Due.made(Due.NEAP).settle());
    }

    private static void settleThatCannotBe() {
        Due.sentence("Promise 13", "or it cannot be");
        for (int left = 3; left <= 6; left++) {
            TideDebts x = Due.made("tide 20 " + (5 + left) + " 20 0 20 0 20 0 20 0 20 0;water cove 10 0;water dyke 10 0;");
            x.lend(1, 0, 5);
            x.hours(1);
            Due.is("depth", left, x.water(0, 0));
            Due.is("balance", 5, x.water(0, 3));
            Due.is("settle with " + left + " for 5", left >= 5 ? 5 : STATE, x.settle());
            Due.is("debts", left >= 5 ? 0 : 1, x.count(5));
            Due.is("acts", left >= 5 ? 3 : 2, x.count(4));
            state(x, "behind it", left >= 5 ? left - 5 : left, 0, left >= 5 ? 10 : 5, 0);
        }
    }

    private static void undoOfNone() {
        Due.sentence("Promise 14", "STATE: none");
        TideDebts x = new TideDebts();
        Due.is("no bay", STATE, x.undo());
        Due.bay(x, Due.NEAP + DYKES);
        Due.is("no act yet", STATE, x.undo());
        x.hours(1);
        Due.is("one", 0, x.undo());
        Due.is("no more", STATE, x.undo());
        x.image(0);
        x.hours(1);
        x.restore(0);
        Due.is("none behind an image that came back", STATE, x.undo());
        x.hours(1);
        Due.bay(x, Due.NEAP + DYKES);
        Due.is("none of the bay before", STATE, x.undo());
    }

    private static void undoTellsHowMany() {
        Due.sentence("Promise 14", "how many can be undone yet");
        TideDebts x = Due.made(Due.NEAP + DYKES);
        x.hours(24);
        for (int i = 23; i >= 12; i--) {
            Due.is("undo", i, x.undo());
            Due.is("acts", i, x.count(4));
        }
        x.lend(0, 1, 1);
        Due.is("an act more", 13, x.count(4));
        Due.is("undo", 12, x.undo());
        Due.is("the loan was the latest", 0, x.owes(1, 0));
        Due.is("HOUR", 12, x.count(2));
    }

    private static void waterOfNoSuchThing() {
        Due.sentence("Promise 15", "BAD");
        TideDebts x = Due.made(Due.NEAP + "water pool 8 6;water dyke 9 4;");
        x.lend(1, 0, 3);
        for (int w : new int[] {-1, 2, 6, LEAST, MOST}) {
            Due.is("water " + w, BAD, x.water(w, 0));
        }
        for (int what : new int[] {-1, 4, LEAST, MOST}) {
            Due.is("what " + what, BAD, x.water(0, what));
        }
        int[][] due = {{11, 0, 6, 3}, {6, 0, 4, -3}};
        for (int w = 0; w < 2; w++) {
            for (int what = 0; what < 4; what++) {
                Due.is("water " + w + ", " + what, due[w][what], x.water(w, what));
            }
        }
    }

    private static void owesAlike() {
        Due.sentence("Promise 16", "BAD: alike, too");
        noSuchTwo("owes");
        TideDebts x = Due.made(Due.NEAP + DYKES);
        Due.is("nothing", 0, x.owes(0, 2));
    }

    private static void ofCounts() {
        Due.sentence("Promise 29", "BAD");
        TideDebts x = Due.made(Due.SPRING + "water dyke 200 0;".repeat(6));
        for (int what : new int[] {-1, 7, LEAST, MOST}) {
            Due.is("count " + what, BAD, x.count(what));
        }
        Due.sentence("Promise 29", "How many: 0 ROWS, 1 WATERS, 2 HOURS gone, 3 DEPTH in all, 4 ACTS that can be undone");
        for (int r = 0; r < 8; r++) {
            x.row(r, 0, 0);
        }
        for (int from = 0; from < 6; from++) {
            for (int to = 0; to < 6; to++) {
                x.lend(from, to, from == to ? 0 : 1);
            }
        }
        for (int i = 0; i < 50; i++) {
            x.feed(0, 8);
        }
        int[] most = {8, 6, 0, 1200, 24, 30, 400};
        for (int what = 0; what < 7; what++) {
            Due.is("count " + what, most[what], x.count(what));
        }
        Due.sentence("Promise 29", "5 debts of one to another (above 0)");
        Due.is("a debt paid", 0, x.pay(0, 1, 1));
        Due.is("debts", 29, x.count(5));
        Due.is("its undoing", 23, x.undo());
        Due.is("debts", 30, x.count(5));
    }
}
