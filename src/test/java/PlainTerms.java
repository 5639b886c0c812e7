/** The sentences of "Terms" that name no edge, a method each; what is due was worked out by hand from the document. */
final class PlainTerms {
    private static final int NONE = TideDebts.NONE, BAD = TideDebts.BAD, STATE = TideDebts.STATE;
    /** RISE: 3 7 0 -9 -1 0 0 0 0 0 -6 6. */
    private static final String SEA = "tide 10 13 20 20 11 10 10 10 10 10 10 4;";
    private static final String DYKES = "water dyke 50 0;water dyke 50 0;water dyke 50 0;";

    private PlainTerms() {
    }

    static void all() {
        Due.each(
            PlainTerms::refusals, PlainTerms::findings, PlainTerms::aBayIsATideAndWaters,
            PlainTerms::aWaterIsSortDepthSill, PlainTerms::aBayInPlaceOfTheOneBefore, PlainTerms::anHourGoesBy,
            PlainTerms::aCoveByRise, PlainTerms::aPoolByRise, PlainTerms::aWellByTheHourBefore,
            PlainTerms::thenTheNextHour, PlainTerms::whatActsAre, PlainTerms::stormsForEachWater,
            PlainTerms::stormsAreDepthAndArrears, PlainTerms::aNetIsMoved, PlainTerms::aheadTellsDepthAndArrears,
            PlainTerms::sailFromAWater, PlainTerms::balances, PlainTerms::gifts, PlainTerms::aLoanNow,
            PlainTerms::aRowTells, PlainTerms::askedByKinds, PlainTerms::sizes, PlainTerms::marks);
    }

    private static void refusals() {
        Due.sentence("Terms", "but as told: BAD (a number is not as told; there is no such thing), STATE (as told), "
            + "FULL (as told)");
        TideDebts x = new TideDebts();
        Due.is("a number is not as told", -1000001, x.row(0, 0, 41));
        Due.is("there is no such thing", -1000001, x.row(8, 0, 1));
        Due.is("no such water", -1000001, x.kind(0));
        Due.is("STATE", -1000002, x.hours(1));
        for (int i = 0; i < 50; i++) {
            x.feed(0, 8);
        }
        Due.is("FULL", -1000003, x.feed(0, 1));
    }

    private static void findings() {
        Due.sentence("Terms", "-1000010 less 1 NULL (a ROW that is missing), 2 PLACE (no such place of a ROW), "
            + "3 KIND (a WATER that is not that), 4 SIZE (fewer than none), 5 STORE (ROWS of two LANES).");
        TideDebts x = Due.made(SEA + "water cove 1 1;");
        x.row(0, 0, 2);
        x.row(1, 1, 2);
        Due.is("NULL", -1000011, x.set(2, 0, 0));
        Due.is("PLACE", -1000012, x.set(0, 2, 0));
        Due.is("KIND", -1000013, x.as(0, 4));
        Due.is("SIZE", -1000014, x.row(0, 0, -1));
        Due.is("STORE", -1000015, x.copy(0, 0, 1, 0, 1));
    }

    private static void aBayIsATideAndWaters() {
        Due.sentence("TEXTS", "bay: tide { water }");
        TideDebts x = new TideDebts();
        Due.is("a tide", 0, Due.bay(x, SEA));
        Due.is("a tide, a water", 1, Due.bay(x, SEA + "water cove 1 1;"));
        Due.is("a tide, three waters", 3, Due.bay(x, SEA + DYKES));
        Due.is("a water ahead of the tide", -1000100, Due.bay(x, "water cove 1 1;" + SEA));
        Due.is("another tide", -1000100 - SEA.length(), Due.bay(x, SEA + SEA));
    }

    private static void aWaterIsSortDepthSill() {
        Due.sentence("TEXTS", "water: 'water' SORT DEPTH SILL ';'");
        TideDebts x = Due.made(SEA + "water lagoon 39 17;water dyke 5 6;");
        Due.is("sort", 2, x.kind(0));
        Due.is("depth", 39, x.water(0, 0));
        Due.is("sill", 17, x.water(0, 2));
        Due.is("sort of the next", 4, x.kind(1));
        Due.is("depth of the next", 5, x.water(1, 0));
        Due.is("sill of the next", 6, x.water(1, 2));
    }

    private static void aBayInPlaceOfTheOneBefore() {
        Due.sentence("TEXTS", "A BAY that is read stands in place of the one before (none at first)");
        TideDebts x = new TideDebts();
        Due.is("none at first", STATE, x.run());
        Due.bay(x, SEA + "water cove 7 3;water dyke 8 4;");
        Due.is("a bay", 0, x.run());
        Due.is("its tide", 3, x.hours(1));
        Due.is("another one", 1, Due.bay(x, "tide 1 30 1 1 1 1 1 1 1 1 1 1;water pool 9 5;"));
        Due.is("waters", 1, x.count(1));
        Due.is("no water 1", BAD, x.water(1, 0));
        Due.is("kind", 3, x.kind(0));
        Due.is("depth", 9, x.water(0, 0));
        Due.is("sill", 5, x.water(0, 2));
        Due.is("tide", 29, x.hours(1));
    }

    private static void anHourGoesBy() {
        Due.sentence("2", "An HOUR goes by");
        TideDebts x = Due.made(SEA + DYKES);
        x.hours(1);
        Due.is("one", 1, x.count(2));
        x.hours(5);
        Due.is("five more", 6, x.count(2));
    }

    private static void depths(TideDebts x, int... due) {
        for (int h = 0; h < due.length; h++) {
            x.hours(1);
            Due.is("depth behind HOUR " + h, due[h], x.water(0, 0));
        }
    }

    private static void aCoveByRise() {
        Due.sentence("2", "Each WATER, in order, by RISE: a cove as much");
        depths(Due.made(SEA + "water cove 12 0;"), 15, 22, 22, 13, 12, 12, 12, 12, 12, 12, 6, 12, 15);
        depths(Due.made(SEA + "water cove 12 40;"), 15, 22, 22, 13, 12, 12, 12, 12, 12, 12, 6, 12, 15);
    }

    private static void aPoolByRise() {
        Due.sentence("2", "a pool as much");
        depths(Due.made(SEA + "water pool 12 0;"), 15, 22, 22, 13, 12, 12, 12, 12, 12, 12, 6, 12, 15);
        depths(Due.made(SEA + "water pool 20 15;"), 20, 27, 27, 27, 27, 27, 27, 27, 27, 27, 27, 27, 27, 34);
        depths(Due.made(SEA + "water pool 20 10;"), 23, 30, 30, 21, 20, 20, 20, 20, 20, 20, 20, 26);
    }

    private static void aWellByTheHourBefore() {
        Due.sentence("2", "a well as much as RISE was in the HOUR ahead of this one");
        depths(Due.made(SEA + "water well 30 7;"), 36, 39, 46, 46, 37, 36, 36, 36, 36, 36, 36, 30, 36, 39);
    }

    private static void thenTheNextHour() {
        Due.sentence("2", "Then it is the next HOUR.");
        TideDebts x = Due.made(SEA + DYKES);
        int[] rises = {3, 7, 0, -9, -1, 0, 0, 0, 0, 0, -6, 6, 3, 7};
        for (int h = 0; h < rises.length; h++) {
            Due.is("RISE of HOUR " + h, rises[h], x.hours(1));
        }
    }

    private static void whatActsAre() {
        Due.sentence("ACTS", "an HOUR; a LOAN");
        TideDebts x = Due.made(SEA + DYKES);
        x.hours(1);
        Due.is("an HOUR", 1, x.count(4));
        x.lend(0, 1, 5);
        Due.is("a LOAN", 2, x.count(4));
        x.pay(1, 0, 2);
        Due.is("one PAYS", 3, x.count(4));
        x.storm(1);
        Due.is("a STORM", 4, x.count(4));
        x.settle();
        Due.is("a NET", 5, x.count(4));
        x.image(0);
        x.row(0, 0, 3);
        x.ahead(0, 1, 0);
        x.ask(0, 0);
        x.feed(0, 1);
        Due.is("nothing else is one", 5, x.count(4));
    }

    private static void stormsForEachWater() {
        Due.sentence("ACTS", "a STORM by a SEED (X at first): for each WATER, in order");
        // X of SEED 1: 16807, 282475249, 1622650073, 984943658
        TideDebts x = Due.made(SEA + DYKES);
        Due.is("in all", 4 + 7 + 5, x.storm(1));
        Due.is("16807", 54, x.water(0, 0));
        Due.is("282475249", 57, x.water(1, 0));
        Due.is("1622650073", 55, x.water(2, 0));
        // X of SEED 16807 is a step on
        x = Due.made(SEA + DYKES);
        Due.is("in all", 7 + 5 + 2, x.storm(16807));
        Due.is("282475249", 57, x.water(0, 0));
        Due.is("1622650073", 55, x.water(1, 0));
        Due.is("984943658", 52, x.water(2, 0));
        Due.is("the next begins with its own SEED", 4 + 7 + 5, x.storm(1));
    }

    private static void stormsAreDepthAndArrears() {
        Due.sentence("ACTS", "is so much DEPTH more, and ARREARS more");
        TideDebts x = Due.made(SEA + "water cove 12 0;water well 3 0;");
        x.storm(1);
        Due.is("depth", 16, x.water(0, 0));
        Due.is("arrears", 4, x.water(0, 1));
        Due.is("depth of the next", 10, x.water(1, 0));
        Due.is("arrears of the next", 7, x.water(1, 1));
        x.storm(1);
        Due.is("more depth, and not against the arrears", 20, x.water(0, 0));
        Due.is("more arrears", 8, x.water(0, 1));
    }

    /** BALANCES 20 - 30 = -10, 30 - 5 = 25, 5 - 20 = -15. */
    private static TideDebts inARing() {
        TideDebts x = Due.made(SEA + DYKES);
        x.lend(0, 1, 30);
        x.lend(1, 2, 5);
        x.lend(2, 0, 20);
        return x;
    }

    private static void aNetIsMoved() {
        Due.sentence("ACTS", "a NET: what is told below is moved");
        TideDebts x = inARing();
        Due.is("depth ahead", 40, x.water(0, 0));
        Due.is("depth ahead", 75, x.water(1, 0));
        Due.is("depth ahead", 35, x.water(2, 0));
        Due.is("moved", 25, x.settle());
        for (int w = 0; w < 3; w++) {
            Due.is("depth behind it", 50, x.water(w, 0));
            Due.is("arrears", 0, x.water(w, 1));
        }
        x.undo();
        Due.is("undone", 75, x.water(1, 0));
    }

    private static void aheadTellsDepthAndArrears() {
        Due.sentence("3 FORETOLD", "DEPTH, ARREARS of a WATER");
        TideDebts x = Due.made("tide 10 13 20 20 11 10 10 10 10 10 10 4;water cove 2 0;water well 1 0;");
        int[] depths = {2, 5, 12, 12, 3, 2, 2, 2, 2, 2, 2, 0, 2};
        int[] arrears = {0, 0, 0, 0, 0, 0, 0, 0, 0, 0, 0, 4, 0};
        for (int n = 0; n < depths.length; n++) {
            Due.is("depth ahead by " + n, depths[n], x.ahead(0, n, 0));
            Due.is("arrears ahead by " + n, arrears[n], x.ahead(0, n, 1));
        }
        Due.is("another water", 7, x.ahead(1, 1, 0));
        Due.is("another water's arrears", 0, x.ahead(1, 12, 1));
    }

    private static void sailFromAWater() {
        Due.sentence("3 FORETOLD", "SAIL of a draught d from a WATER");
        TideDebts x = Due.made(SEA + "water cove 12 0;water well 30 7;water dyke 50 0;");
        Due.is("from the cove", 2, x.sail(0, 20, 1, 0));
        Due.is("home", 3, x.sail(0, 20, 1, 1));
        Due.is("home, two behind", 14, x.sail(0, 20, 2, 1));
        Due.is("from the well", 3, x.sail(1, 40, 1, 0));
        Due.is("home", 4, x.sail(1, 40, 1, 1));
        Due.is("from the dyke", 0, x.sail(2, 50, 9, 0));
        Due.is("home", 9, x.sail(2, 50, 9, 1));
        Due.is("a draught of 51", NONE, x.sail(2, 51, 9, 0));
    }

    private static void balances() {
        Due.sentence("3 FORETOLD", "BALANCE of one: what it owes to all others, less what all others owe to it.");
        TideDebts x = inARing();
        Due.is("20 - 30", -10, x.water(0, 3));
        Due.is("30 - 5", 25, x.water(1, 3));
        Due.is("5 - 20", -15, x.water(2, 3));
        x.lend(1, 0, 7);
        Due.is("two debts of one", -3, x.water(0, 3));
        Due.is("two debts to one", 18, x.water(1, 3));
    }

    private static void gifts() {
        Due.sentence("3 FORETOLD", "how many such gifts there are, the k-th: from whom, to whom, how much");
        TideDebts x = inARing();
        Due.is("gifts", 2, x.net(-1, 0));
        int[][] due = {{1, 0, 10}, {1, 2, 15}};
        for (int k = 0; k < 2; k++) {
            for (int what = 0; what < 3; what++) {
                Due.is("gift " + k + ", " + what, due[k][what], x.net(k, what));
            }
        }
    }

    private static void aLoanNow() {
        Due.sentence("3 FORETOLD", "LEAST LOAN of a WATER from another one, now, so that");
        // Behind HOUR 10 (ebb 6) the cove has none and owes the sea 4; 4 more now are 4 fewer of these
        TideDebts x = Due.made(SEA + "water cove 2 0;water dyke 50 0;");
        Due.is("0 ahead by 11", 0, x.ahead(0, 11, 0));
        Due.is("1 then", 5, x.least(0, 1, 1, 11));
        Due.is("10 then", 14, x.least(0, 1, 10, 11));
        Due.is("46 then", 50, x.least(0, 1, 46, 11));
        Due.is("47 then", NONE, x.least(0, 1, 47, 11));
        Due.is("the dyke from the cove", 2, x.least(1, 0, 52, 11));
        Due.is("it is lent now, so 12 that come are not there", NONE, x.least(1, 0, 53, 11));
    }

    private static void aRowTells() {
        Due.sentence("3 FORETOLD", "FRAUDS: a row tells");
        TideDebts x = Due.made(SEA + "water cove 12 0;water pool 20 15;water lagoon 9 3;water well 30 7;water dyke 50 0;");
        x.row(0, 0, 5);
        int[] next = {15, 20, 10, 36, 50};
        for (int w = 0; w < 5; w++) {
            x.set(0, w, next[w]);
        }
        Due.is("it tells what comes", 0, x.frauds(0, 0));
        x.hours(1);
        Due.is("an HOUR later only the dyke is as told", 15, x.frauds(0, 0));
    }

    private static TideDebts five() {
        return Due.made(SEA + "water cove 12 4;water lagoon 9 3;water pool 20 15;water dyke 50 1;water well 30 7;");
    }

    private static void asked(TideDebts x, int water, int what, int answer, int... trace) {
        String name = "ask(" + water + ", " + what + ")";
        Due.is(name, answer, x.ask(water, what));
        for (int i = 0; i <= trace.length; i++) {
            Due.is("trace " + i + " of " + name, i < trace.length ? trace[i] : NONE, x.trace(i));
        }
    }

    private static void askedByKinds() {
        Due.sentence("KINDS", "By this it is asked.");
        TideDebts x = five();
        asked(x, 2, 0, 20 + (2 + 15 - 1000), 11, 10, 22, 21, 20);
        asked(x, 4, 1, 4 - 2 * (30 - 100), 23, 20, 14, 13, 10);
    }

    private static void sizes() {
        Due.sentence("4 ASKS", "0 SIZE: 10 lent to all WATERS: DEPTH. 11 of COVES: what 10 gives, and MARK. "
            + "12 of LAGOONS: 0 less what 11 gives. 13 of DYKES: what 10 gives, less 100. "
            + "14 of WELLS: what 13 gives, twice.");
        TideDebts x = five();
        asked(x, 0, 0, 12 + (0 + 4), 11, 10, 21, 20);
        asked(x, 1, 0, -(9 + 2 * (1 + 3)), 12, 11, 10, 24, 21, 20);
        asked(x, 3, 0, 50 - 100, 13, 10);
        asked(x, 4, 0, 2 * (30 - 100), 14, 13, 10);
        x.hours(2);
        asked(x, 0, 0, 22 + (0 + 4), 11, 10, 21, 20);
        asked(x, 4, 0, 2 * (39 - 100), 14, 13, 10);
    }

    private static void marks() {
        Due.sentence("4 ASKS", "1 MARK: 20 lent to all WATERS: its number. 21 of COVES: what 20 gives, and SILL. "
            + "22 of POOLS: what 21 gives, less 1000. 23 of DYKES: what 20 gives, less SIZE. "
            + "24 of LAGOONS: what 21 gives, twice.");
        TideDebts x = five();
        asked(x, 0, 1, 0 + 4, 21, 20);
        asked(x, 1, 1, 2 * (1 + 3), 24, 21, 20);
        asked(x, 2, 1, 2 + 15 - 1000, 22, 21, 20);
        asked(x, 3, 1, 3 - (50 - 100), 23, 20, 13, 10);
        x.hours(2);
        asked(x, 4, 1, 4 - 2 * (39 - 100), 23, 20, 14, 13, 10);
    }
}
