/**
 * The sentences of "Terms" that name an edge. "What is refused, or found, changes nothing but status()", for each
 * refusal of each call: an object on which the call was made, and one like it on which it was not, must answer alike to
 * whatever tells of them.
 */
final class TermEdges {
    private static final int NONE = TideDebts.NONE, BAD = TideDebts.BAD, STATE = TideDebts.STATE, FULL = TideDebts.FULL;
    private static final int NULL = -1000011, PLACE = -1000012, KIND = -1000013, SIZE = -1000014, STORE = -1000015;

    private TermEdges() {
    }

    static void all() {
        Due.each(
            TermEdges::refusedRows, TermEdges::refusedCopies, TermEdges::refusedTexts,
            TermEdges::refusedActs, TermEdges::refusedActsByState, TermEdges::refusedQuestions,
            TermEdges::refusedForetelling, TermEdges::refusedWithoutABay, TermEdges::refusedAtTheMost,
            TermEdges::foretelling, TermEdges::asking, TermEdges::theOrderOfRefusals,
            TermEdges::theFirstFindingInTime, TermEdges::numbersGoFrom0On, TermEdges::quotientsAreCut,
            TermEdges::anObjectIsUsedFor512Calls);
    }

    private interface Maker {
        TideDebts make();
    }

    /** Some of everything: rows of three lanes, a tape begun, a bay with a past, an image, a trace, a fault. */
    private static TideDebts lived() {
        TideDebts x = new TideDebts();
        Due.bay(x, "tide 41");
        Due.bay(x, Due.TIDE + "water cove 30 0;water dyke 40 3;water well 5 0;");
        for (int lane = 0; lane < 3; lane++) {
            x.row(lane, lane, 3);
            for (int i = 0; i < 3; i++) {
                x.set(lane, i, 10 * lane + i);
            }
        }
        x.lend(1, 0, 20);
        x.image(0);
        x.hours(2);
        x.storm(4);
        x.pay(0, 1, 3);
        x.lend(0, 2, 40);
        x.ask(0, 0);
        Due.feed(x, "tide 0 1 2 3 4 5".getBytes());
        x.as(0, 4);
        return x;
    }

    /** The same when it can not be netted: the well owes 52 and has 46. */
    private static TideDebts broke() {
        TideDebts x = lived();
        x.hours(9);
        x.row(3, 0, 3);
        x.set(3, 1, -1);
        x.as(0, 4);
        return x;
    }

    private static TideDebts fresh() {
        return new TideDebts();
    }

    private static TideDebts withFullTape() {
        TideDebts x = lived();
        String text = " 6 5 4 3 2 1;water dyke 1 1;water dyke 1 1;";
        Due.feed(x, (text + " ".repeat(396 - x.count(6) - text.length())).getBytes());
        x.as(0, 4);
        return x;
    }

    private static TideDebts atHour999() {
        TideDebts x = lived();
        for (int i = 0; i < 41; i++) {
            x.hours(24);
        }
        x.hours(13);
        return x;
    }

    private static TideDebts withTheMostDebt() {
        TideDebts x = Due.made(Due.NEAP + "water dyke 200 0;water dyke 200 0;water dyke 9 0;");
        x.lend(0, 1, 189);
        x.hours(24);
        x.hours(24);
        x.as(0, 1);
        return x;
    }

    /** All that calls can tell of an object, but for status(); little of it is left then. */
    private static String tellAll(TideDebts x) {
        StringBuilder s = new StringBuilder(Due.all(x));
        for (int acts = 0; acts < 6; acts++) {
            s.append("undo ").append(x.undo()).append(' ').append(Due.bayOf(x)).append('\n');
        }
        for (int k = 0; k < 2; k++) {
            s.append("image ").append(x.restore(k)).append(' ').append(x.count(2)).append(' ');
            s.append(x.count(3)).append(' ').append(x.count(5)).append('\n');
        }
        Due.feed(x, " 6 ".getBytes());
        Due.feed(x, "5 4 3 2 1;".getBytes());
        s.append("tape ").append(x.count(6)).append(' ').append(x.bay()).append(' ').append(x.fault()).append('\n');
        for (int row = 0; row < 4; row++) {
            Due.bay(x, Due.NEAP + "water dyke " + 10 * row + " 0;water dyke " + (10 * row + 1) + " 0;water dyke "
                + (10 * row + 2) + " 0;");
            s.append("row ").append(x.frauds(row, 0)).append(' ').append(x.set(row, 0, 0x12345678)).append(' ');
            s.append(x.drop(row)).append('\n');
        }
        for (int row = 4; row < 8; row++) {
            s.append("row ").append(x.drop(row)).append('\n');
        }
        return s.toString();
    }

    private static void keeps(Maker maker, int answer, String name, long... a) {
        TideDebts with = maker.make();
        TideDebts without = maker.make();
        StringBuilder call = new StringBuilder(name);
        for (long v : a) {
            call.append(' ').append(v);
        }
        int before = with.status();
        Due.is(call.toString(), answer, Calls.call(with, name, a));
        boolean found = answer <= NULL && answer >= STORE;
        Due.is("status behind " + call, found ? -1000010 - answer : before, with.status());
        Due.same("what " + call + " leaves", tellAll(without), tellAll(with));
    }

    private static void begin() {
        Due.sentence("Terms", "What is refused, or found, changes nothing but status().");
    }

    private static void refusedRows() {
        begin();
        Maker m = TermEdges::lived;
        keeps(m, BAD, "row", 8, 0, 2);
        keeps(m, BAD, "row", -1, 0, 2);
        keeps(m, BAD, "row", 0, 3, 2);
        keeps(m, BAD, "row", 0, -1, 2);
        keeps(m, BAD, "row", 0, 0, 41);
        keeps(m, SIZE, "row", 0, 0, -1);
        keeps(m, SIZE, "row", 5, 2, -1);
        keeps(m, BAD, "set", 8, 0, 9);
        keeps(m, BAD, "set", -1, 0, 9);
        keeps(m, NULL, "set", 4, 0, 9);
        keeps(m, PLACE, "set", 0, 3, 9);
        keeps(m, PLACE, "set", 0, -1, 9);
        keeps(m, BAD, "drop", 8);
        keeps(m, BAD, "drop", -1);
        keeps(m, NULL, "drop", 4);
    }

    private static void refusedCopies() {
        begin();
        Maker m = TermEdges::lived;
        keeps(m, BAD, "copy", 8, 0, 0, 0, 1);
        keeps(m, BAD, "copy", 0, 0, 8, 0, 1);
        keeps(m, BAD, "copy", -1, 0, 0, 0, 1);
        keeps(m, BAD, "copy", 0, 0, -1, 0, 1);
        keeps(m, NULL, "copy", 4, 0, 0, 0, 1);
        keeps(m, NULL, "copy", 0, 0, 4, 0, 1);
        keeps(m, STORE, "copy", 0, 0, 1, 0, 1);
        keeps(m, STORE, "copy", 1, 0, 2, 0, 1);
        keeps(m, PLACE, "copy", 0, -1, 0, 0, 2);
        keeps(m, PLACE, "copy", 0, 0, 0, -1, 2);
        keeps(m, PLACE, "copy", 0, 0, 0, 1, -1);
        keeps(m, PLACE, "copy", 0, 2, 0, 0, 2);
        keeps(m, PLACE, "copy", 0, 0, 0, 2, 2);
    }

    private static void refusedTexts() {
        begin();
        keeps(TermEdges::lived, BAD, "feed", 0x2020202020202020L, 0);
        keeps(TermEdges::lived, BAD, "feed", 0x2020202020202020L, 9);
        keeps(TermEdges::lived, BAD, "feed", 0x2020202020202020L, -1);
        keeps(TermEdges::withFullTape, FULL, "feed", 0x2121212121212121L, 5);
        keeps(TermEdges::withFullTape, FULL, "feed", 0x2121212121212121L, 8);
        keeps(TermEdges::withFullTape, BAD, "feed", 0x2121212121212121L, 9);
    }

    private static void refusedActs() {
        begin();
        Maker m = TermEdges::lived;
        keeps(m, BAD, "hours", 0);
        keeps(m, BAD, "hours", 25);
        keeps(m, BAD, "lend", 0, 0, 1);
        keeps(m, BAD, "lend", 0, 3, 1);
        keeps(m, BAD, "lend", 3, 0, 1);
        keeps(m, BAD, "lend", 0, 1, 0);
        keeps(m, BAD, "lend", 0, 1, -1);
        keeps(m, BAD, "lend", 0, 1, 1000);
        keeps(m, BAD, "pay", 0, 0, 1);
        keeps(m, BAD, "pay", 0, 3, 1);
        keeps(m, BAD, "pay", 3, 0, 1);
        keeps(m, BAD, "pay", 0, 1, 0);
        keeps(m, BAD, "pay", 0, 1, -1);
        keeps(m, BAD, "pay", 0, 1, 10000);
        keeps(m, BAD, "storm", 0);
        keeps(m, BAD, "storm", 1000000);
    }

    private static void refusedActsByState() {
        begin();
        Maker m = TermEdges::lived;
        keeps(m, STATE, "lend", 0, 1, 999);
        keeps(m, STATE, "pay", 0, 1, 18);
        keeps(m, STATE, "pay", 1, 0, 1);
        keeps(TermEdges::broke, STATE, "settle");
        keeps(TermEdges::broke, STATE, "pay", 0, 1, 17);
        keeps(TermEdges::broke, STATE, "lend", 0, 1, 12);
        keeps(m, STATE, "restore", 1);
        keeps(m, BAD, "restore", 2);
        keeps(m, BAD, "restore", -1);
        keeps(m, BAD, "image", 2);
        keeps(m, BAD, "image", -1);
    }

    private static void refusedQuestions() {
        begin();
        Maker m = TermEdges::lived;
        keeps(m, BAD, "water", 3, 0);
        keeps(m, BAD, "water", 0, 4);
        keeps(m, BAD, "owes", 0, 0);
        keeps(m, BAD, "owes", 0, 3);
        keeps(m, BAD, "kind", 3);
        keeps(m, BAD, "as", 3, 0);
        keeps(m, BAD, "as", 0, 6);
        keeps(m, KIND, "as", 0, 2);
        keeps(m, BAD, "ask", 3, 0);
        keeps(m, BAD, "ask", 0, 2);
        keeps(m, NONE, "trace", 16);
        keeps(m, NONE, "trace", -1);
        keeps(m, BAD, "count", 7);
        keeps(m, BAD, "count", -1);
    }

    private static void refusedForetelling() {
        begin();
        Maker m = TermEdges::lived;
        keeps(m, BAD, "ahead", 0, 49, 0);
        keeps(m, BAD, "sail", 0, 1000, 1, 0);
        keeps(m, NONE, "sail", 0, 999, 1, 1);
        keeps(m, BAD, "net", -3, 0);
        keeps(m, NONE, "net", 6, 0);
        keeps(m, BAD, "least", 0, 0, 0, 0);
        keeps(m, NONE, "least", 0, 1, 999, 24);
        keeps(m, BAD, "frauds", 8, 0);
        keeps(m, NULL, "frauds", 4, 0);
        keeps(m, PLACE, "frauds", 0, 1);
        keeps(TermEdges::broke, BAD, "frauds", 3, 0);
    }

    private static void refusedWithoutABay() {
        begin();
        Maker m = TermEdges::fresh;
        keeps(m, STATE, "hours", 1);
        keeps(m, STATE, "storm", 1);
        keeps(m, STATE, "settle");
        keeps(m, STATE, "undo");
        keeps(m, STATE, "net", -1, 0);
        keeps(m, STATE, "run");
        keeps(m, STATE, "frauds", 0, 0);
        keeps(m, STATE, "image", 0);
        keeps(m, STATE, "restore", 0);
        keeps(m, BAD, "lend", 0, 1, 1);
        keeps(m, BAD, "pay", 0, 1, 1);
        keeps(m, BAD, "ask", 0, 0);
    }

    private static void refusedAtTheMost() {
        begin();
        keeps(TermEdges::atHour999, FULL, "hours", 1);
        keeps(TermEdges::atHour999, FULL, "hours", 24);
        keeps(TermEdges::withTheMostDebt, FULL, "lend", 0, 1, 1);
        keeps(TermEdges::withTheMostDebt, FULL, "lend", 0, 1, 11);
        keeps(TermEdges::withTheMostDebt, STATE, "lend", 0, 1, 12);
    }

    private static void foretelling() {
        Due.sentence("3 FORETOLD", "FORETOLD (nothing changes)");
        Maker m = TermEdges::lived;
        keeps(m, lived().ahead(0, 48, 2), "ahead", 0, 48, 2);
        keeps(m, lived().sail(0, 20, 24, 1), "sail", 0, 20, 24, 1);
        keeps(m, 2, "net", -1, 0);
        keeps(m, 2, "net", 0, 0);
        keeps(m, lived().net(-2, 0), "net", -2, 0);
        keeps(m, lived().least(0, 2, 40, 24), "least", 0, 2, 40, 24);
        keeps(m, lived().run(), "run");
        TideDebts x = lived();
        x.frauds(0, 0);
        Due.same("what frauds leaves", tellAll(lived()), tellAll(x));
    }

    private static void asking() {
        Due.sentence("Not promised", "Nothing is promised beyond the answers and state changes described above");
        Maker m = TermEdges::lived;
        keeps(m, 17, "owes", 0, 1);
        keeps(m, 3, "water", 1, 2);
        keeps(m, 1, "kind", 0);
        keeps(m, 28, "water", 0, 0);
        keeps(m, 11, "trace", 0);
        keeps(m, 3, "status");
        keeps(m, 2, "fault");
        keeps(m, 16, "count", 6);
        TideDebts x = lived();
        Due.is("as", 0, x.as(0, 1));
        Due.same("what as leaves", tellAll(lived()), tellAll(x));
    }

    private static void theOrderOfRefusals() {
        Due.sentence("Terms", "Refusals are answers, the first of these that fits");
        TideDebts x = lived();
        Due.is("BAD ahead of SIZE", BAD, x.row(9, 0, -1));
        Due.is("BAD ahead of NULL", BAD, x.copy(4, 0, 9, 0, 0));
        Due.is("NULL ahead of PLACE", NULL, x.set(4, 99, 0));
        Due.is("NULL ahead of STORE and PLACE", NULL, x.copy(0, -1, 4, -1, -1));
        Due.is("STORE ahead of PLACE", STORE, x.copy(0, -1, 1, -1, -1));
        Due.is("BAD ahead of STATE, lend", BAD, x.lend(0, 0, 999));
        Due.is("BAD ahead of STATE, pay", BAD, x.pay(1, 1, 9999));
        Due.is("BAD ahead of KIND", BAD, x.as(0, 9));
        Due.is("BAD ahead of NONE, sail", BAD, x.sail(0, 999, 0, 0));
        Due.is("BAD ahead of NONE, least", BAD, x.least(0, 1, 999, 25));
        Due.is("BAD ahead of NONE, net", BAD, x.net(99, 9));
        Due.is("NULL ahead of PLACE, frauds", NULL, x.frauds(4, -1));
        Due.is("BAD ahead of FULL, hours", BAD, atHour999().hours(25));
        Due.is("BAD ahead of FULL, feed", BAD, withFullTape().feed(0, 9));
        Due.is("BAD ahead of FULL, lend", BAD, withTheMostDebt().lend(0, 1, 1000));
        Due.is("STATE ahead of FULL, lend", STATE, withTheMostDebt().lend(0, 1, 12));
        Due.is("BAD ahead of STATE, image", BAD, fresh().image(2));
        Due.is("BAD ahead of STATE, restore", BAD, fresh().restore(2));
        Due.is("STATE ahead of BAD, hours", STATE, fresh().hours(0));
        Due.is("STATE ahead of BAD, storm", STATE, fresh().storm(0));
        Due.is("STATE ahead of BAD, net", STATE, fresh().net(-3, 9));
        Due.is("STATE ahead of BAD, frauds", STATE, fresh().frauds(9, 0));
        TideDebts y = broke();
        Due.is("PLACE ahead of BAD, frauds", PLACE, y.frauds(3, 1));
        Due.is("then BAD", BAD, y.frauds(3, 0));
    }

    private static void theFirstFindingInTime() {
        Due.sentence("Terms", "FINDINGS, of several the first in time");
        TideDebts x = lived();
        Due.is("set: NULL, PLACE", NULL, x.set(4, -1, 0));
        Due.is("its status", 1, x.status());
        Due.is("copy: NULL, PLACE", NULL, x.copy(4, -1, 5, -1, -1));
        Due.is("copy: STORE, PLACE", STORE, x.copy(1, 9, 2, 9, 9));
        Due.is("its status", 5, x.status());
        Due.is("frauds: NULL, PLACE", NULL, x.frauds(4, 99));
        Due.is("its status", 1, x.status());
    }

    private static void numbersGoFrom0On() {
        Due.sentence("Terms", "Numbers go from 0 on.");
        TideDebts x = new TideDebts();
        Due.is("the first place of a text", -1000100, Due.bay(x, "x"));
        Due.bay(x, "tide 5 9 0 0 0 0 0 0 0 0 0 0;water cove 1 1;water dyke 2 2;");
        Due.is("the first HOUR", 4, x.hours(1));
        Due.is("the first row", 1, x.row(0, 0, 1));
        Due.is("the first item", 7, x.set(0, 0, 7));
        Due.is("the first water", 5, x.water(0, 0));
        Due.is("its number", 0, x.as(0, 0));
        x.lend(0, 1, 3);
        Due.is("the first gift, by the second water", 1, x.net(0, 0));
        Due.is("the first gift, to the first water", 0, x.net(0, 1));
        x.ask(1, 0);
        Due.is("the first of the trace", 13, x.trace(0));
        Due.is("the first image", 1, x.image(0));
    }

    private static void quotientsAreCut() {
        Due.sentence("Terms", "All that is divided is cut towards 0.");
        TideDebts x = Due.made("tide 20 19 16 11 12 15 20 20 20 20 20 20;water lagoon 9 0;water dyke 50 0;");
        x.lend(1, 0, 19);
        int[][] due = {{-1, 28, 20}, {-3, 27, 20}, {-5, 25, 20}, {1, 25, 22}, {3, 26, 22}, {5, 28, 22}, {0, 28, 24}};
        for (int[] d : due) {
            Due.is("RISE", d[0], x.hours(1));
            Due.is("depth behind a RISE of " + d[0], d[1], x.water(0, 0));
            Due.is("debt behind a RISE of " + d[0], d[2], x.owes(0, 1));
        }
    }

    private static void anObjectIsUsedFor512Calls() {
        Due.sentence("What it is", "An object is used for at most 512 calls after it has been made");
        TideDebts x = new TideDebts();
        String text = Due.TIDE + Due.FIVE;
        Due.is("waters", 5, Due.bay(x, text));
        for (int calls = (text.length() + 7) / 8 + 1; calls < 511; calls++) {
            boolean right = switch (calls % 4) {
                case 0 -> x.least(0, 4, 50, 24) == 38;
                case 1 -> x.sail(0, 42, 15, 1) == 28;
                case 2 -> x.ahead(2, 48, 0) == 13;
                default -> x.storm(0) == BAD;
            };
            Due.is("call " + calls, 1, right ? 1 : 0);
        }
        Due.is("the last one", 6, x.hours(1));
    }
}
