/** The sentences of "TEXTS" and of promises 1 and 6 to 8 that name an edge, a method each. */
final class TextEdges {
    private static final int NONE = TideDebts.NONE, BAD = TideDebts.BAD, STATE = TideDebts.STATE, FULL = TideDebts.FULL;
    private static final int LEAST = Integer.MIN_VALUE, MOST = Integer.MAX_VALUE;
    private static final String T = Due.NEAP;
    private static final int E = T.length();

    private TextEdges() {
    }

    static void all() {
        Due.each(
            TextEdges::noBay, TextEdges::theTapeHas400Bytes, TextEdges::theHighestByteComesFirst,
            TextEdges::feedOfTooFewOrTooManyBytes, TextEdges::aFullTapeTakesNone, TextEdges::namesAreLettersAToZ,
            TextEdges::numbersHaveThreeFiguresAtMost, TextEdges::figuresAre0To9, TextEdges::signsAndBlanks,
            TextEdges::theTideHas12Numbers, TextEdges::levelsAre0To40, TextEdges::theTideGoesRoundAndRound,
            TextEdges::sortsAreFive, TextEdges::depthsAre0To200, TextEdges::sillsAre0To40,
            TextEdges::thereAreSixWatersAtMost, TextEdges::aBayStandsInPlaceOfTheOneBefore,
            TextEdges::theFirstTokenThatHasAFault, TextEdges::ofOneTokenTheLeast, TextEdges::itCannotStandThere,
            TextEdges::itIsNone, TextEdges::theEnd, TextEdges::aNumberThatIsNotAsTold, TextEdges::aWaterTooMany,
            TextEdges::theTapeIsEmptyThen, TextEdges::aFaultKeepsAll, TextEdges::placesOfFaults,
            TextEdges::faultBeforeOne, TextEdges::latestFault);
    }

    private static void fault(String text, int place, int number) {
        TideDebts x = new TideDebts();
        Due.is("'" + text + "'", -1000100 - place, Due.bay(x, text));
        Due.is("the fault of '" + text + "'", number, x.fault());
        Due.is("a bay of '" + text + "'", STATE, x.run());
    }

    private static void reads(String text, int waters) {
        TideDebts x = new TideDebts();
        Due.is("'" + text + "'", waters, Due.bay(x, text));
        Due.is("the fault of '" + text + "'", 0, x.fault());
        Due.is("a bay of '" + text + "'", 0, x.run());
    }

    private static void noBay() {
        Due.sentence("Promise 1", "No BAY.");
        TideDebts x = new TideDebts();
        Due.is("hours", STATE, x.hours(1));
        Due.is("storm", STATE, x.storm(1));
        Due.is("settle", STATE, x.settle());
        Due.is("undo", STATE, x.undo());
        Due.is("net", STATE, x.net(-1, 0));
        Due.is("run", STATE, x.run());
        Due.is("image", STATE, x.image(0));
        Due.is("restore", STATE, x.restore(0));
        Due.is("water", BAD, x.water(0, 0));
        Due.is("owes", BAD, x.owes(0, 1));
        Due.is("lend", BAD, x.lend(0, 1, 1));
        Due.is("pay", BAD, x.pay(0, 1, 1));
        Due.is("ahead", BAD, x.ahead(0, 0, 0));
        Due.is("sail", BAD, x.sail(0, 0, 1, 0));
        Due.is("least", BAD, x.least(0, 1, 0, 0));
        Due.is("kind", BAD, x.kind(0));
        Due.is("as", BAD, x.as(0, 0));
        Due.is("ask", BAD, x.ask(0, 0));
        Due.is("trace", NONE, x.trace(0));
        for (int what = 0; what <= 6; what++) {
            Due.is("count " + what, 0, x.count(what));
        }
        x.row(0, 0, 0);
        Due.is("frauds", STATE, x.frauds(0, 0));
    }

    private static void theTapeHas400Bytes() {
        Due.sentence("TEXTS", "THE TAPE has at most 400 bytes");
        TideDebts x = new TideDebts();
        for (int i = 1; i <= 400; i++) {
            Due.is("byte " + i, i, x.feed(' ', 1));
        }
        Due.is("byte 401", FULL, x.feed(' ', 1));
        Due.is("the end of all of it", -1000500, x.bay());
        String text = T + "water cove 7 0;";
        reads(" ".repeat(400 - text.length()) + text, 1);
        reads(text + "\n".repeat(400 - text.length()), 1);
        fault("a".repeat(400), 0, 1);
        fault("tide " + "1".repeat(395), 5, 1);
        fault(" ".repeat(395) + "tide;", 399, 1);
        fault(" ".repeat(394) + "tide 1", 400, 1);
        fault(" ".repeat(396) + "tide", 400, 1);
    }

    private static void theHighestByteComesFirst() {
        Due.sentence("Promise 6", "The lowest n bytes of w (1 to 8), the highest of them first");
        TideDebts x = new TideDebts();
        Due.is("one byte", 1, x.feed(0x6161616161616174L, 1));
        Due.is("three bytes", 4, x.feed(0x7a7a7a7a7a696465L, 3));
        Due.is("eight bytes", 12, x.feed(0x2030203120322033L, 8));
        Due.is("a negative w", 13, x.feed(-1L << 8 | ' ', 1));
        byte[] rest = "4 5 6 5 4 3 2 1;".getBytes();
        Due.feed(x, rest);
        Due.is("bytes", 13 + rest.length, x.count(6));
        Due.is("'tide 0 1 2 3' and so on", 0, x.bay());
        Due.is("its first RISE", 1, x.hours(1));
    }

    private static void feedOfTooFewOrTooManyBytes() {
        Due.sentence("Promise 6", "BAD: n");
        TideDebts x = new TideDebts();
        for (int n : new int[] {0, -1, 9, LEAST, MOST}) {
            Due.is(n + " bytes", BAD, x.feed(0, n));
        }
        Due.is("bytes", 0, x.count(6));
        Due.is("1", 1, x.feed(0, 1));
        Due.is("8", 9, x.feed(0, 8));
    }

    private static void aFullTapeTakesNone() {
        Due.sentence("Promise 6", "FULL: none comes");
        TideDebts x = new TideDebts();
        String text = " ".repeat(393 - E) + T;
        Due.feed(x, text.getBytes());
        Due.is("393 and 8", FULL, x.feed(0, 8));
        Due.is("none came", 393, x.count(6));
        Due.is("BAD comes ahead of FULL", BAD, x.feed(0, 9));
        Due.is("393 and 7", 400, x.feed(0x20202020202020L, 7));
        Due.is("400 and 1", FULL, x.feed(0, 1));
        Due.is("400 and 8", FULL, x.feed(0, 8));
        Due.is("none came", 400, x.count(6));
        Due.is("no byte of them is read", 0, x.bay());
        Due.is("then there is room", 8, x.feed(0, 8));
    }

    private static void namesAreLettersAToZ() {
        Due.sentence("TEXTS", "NAMES (letters a to z)");
        fault("a", 0, 1);
        fault("z", 0, 1);
        fault("tide", 4, 1);
        fault("tidea", 0, 1);
        fault("tidez", 0, 1);
        fault("tide`", 4, 1);
        fault("tide{", 4, 1);
        fault("tideA", 4, 1);
        fault("tideZ", 4, 1);
        fault("Tide", 0, 1);
        fault("TIDE", 0, 1);
        fault("tid e", 0, 1);
        fault("tide" + (char) 233, 4, 1);
        fault(T + "Water cove 1 1;", E, 1);
        fault(T + "water Cove 1 1;", E + 6, 1);
    }

    private static void numbersHaveThreeFiguresAtMost() {
        Due.sentence("TEXTS", "NUMBERS (figures, 3 at most)");
        TideDebts x = new TideDebts();
        Due.is("three figures", 1, Due.bay(x, "tide 000 001 002 003 004 005 006 005 004 003 002 001;water cove 007 040;"));
        Due.is("depth", 7, x.water(0, 0));
        Due.is("sill", 40, x.water(0, 2));
        fault("tide 0000", 5, 1);
        fault("tide 0 0040", 7, 1);
        fault("tide 1234567890123456789", 5, 1);
        fault(T + "water cove 0007 0;", E + 11, 1);
        fault(T + "water cove 7 0000;", E + 13, 1);
    }

    private static void figuresAre0To9() {
        Due.sentence("TEXTS", "NUMBERS (figures");
        TideDebts x = Due.made("tide 10 29 38 17 26 35 4 5 6 7 8 9;water dyke 190 28;water dyke 193 7;");
        Due.is("depth", 190, x.water(0, 0));
        Due.is("sill", 28, x.water(0, 2));
        Due.is("depth", 193, x.water(1, 0));
        int[] rises = {19, 9, -21, 9, 9, -31, 1, 1, 1, 1, 1, 1};
        for (int h = 0; h < 12; h++) {
            Due.is("RISE of HOUR " + h, rises[h], x.hours(1));
        }
        fault("tide /", 5, 1);
        fault("tide :", 5, 1);
        fault("tide -1", 5, 1);
        fault("tide +1", 5, 1);
        fault("tide 1.", 6, 1);
    }

    private static void signsAndBlanks() {
        Due.sentence("TEXTS", "SIGNS ; bytes 32 and 10 between");
        reads("tide 0 1 2 3 4 5 6 5 4 3 2 1;", 0);
        reads("\n\n tide\n0 1\n\n2  3 4 5 6 5 4 3 2 1 \n ;\n ", 0);
        reads("tide 0 1 2 3 4 5 6 5 4 3 2 1 ; water cove 1 1 ; water cove 1 1;", 2);
        reads("tide\n0\n1\n2\n3\n4\n5\n6\n5\n4\n3\n2\n1;water\ncove\n1\n1;", 1);
        for (int b : new int[] {0, 9, 11, 12, 13, 31, 33, 58, 60, 160, 255}) {
            fault("tide 0" + (char) b + "1", 6, 1);
        }
        fault("tide 0 1 2 3 4 5 6 5 4 3 2 1:", 28, 1);
        fault("tide 0 1 2 3 4 5 6 5 4 3 2 1<", 28, 1);
        fault("tide 0 1 2 3 4 5 6 5 4 3 2 1;;", 29, 1);
    }

    private static void theTideHas12Numbers() {
        Due.sentence("TEXTS", "'tide' and 12 NUMBERS ';'");
        reads("tide 1 1 1 1 1 1 1 1 1 1 1 1;", 0);
        fault("tide 1 1 1 1 1 1 1 1 1 1 1;", 26, 1);
        fault("tide 1 1 1 1 1 1 1 1 1 1 1 1 1;", 29, 1);
        fault("tide;", 4, 1);
        fault(" tide 1 1 1 1 1 1 1 1 1 1 1 1 water cove 1 1;", 30, 1);
        fault("water cove 1 1;", 0, 1);
        fault(T + "tide 1 1 1 1 1 1 1 1 1 1 1 1;", E, 1);
    }

    private static void levelsAre0To40() {
        Due.sentence("TEXTS", "(0 to 40; the LEVEL of the sea");
        TideDebts x = Due.made("tide 0 40 0 0 0 0 0 0 0 0 0 40;");
        Due.is("0 to 40", 40, x.hours(1));
        Due.is("40 to 0", -40, x.hours(1));
        Due.is("the last is 40", 40, x.hours(9));
        fault("tide 41 0 0 0 0 0 0 0 0 0 0 0;", 5, 2);
        fault("tide 0 0 0 0 0 0 0 0 0 0 0 41;", 27, 2);
        fault("tide 0 0 0 0 0 999 0 0 0 0 0 0;", 15, 2);
        fault("tide 041 0 0 0 0 0 0 0 0 0 0 0;", 5, 2);
    }

    private static void theTideGoesRoundAndRound() {
        Due.sentence("TEXTS", "in HOURS 0 to 11, and so on, round and round");
        int[] levels = {3, 9, 20, 40, 31, 17, 5, 0, 2, 30, 12, 8};
        TideDebts x = Due.made("tide 3 9 20 40 31 17 5 0 2 30 12 8;water cove 100 0;");
        int depth = 100;
        for (int h = 0; h < 50; h++) {
            int rise = levels[(h + 1) % 12] - levels[h % 12];
            depth += rise;
            Due.is("RISE of HOUR " + h, rise, x.hours(1));
            Due.is("depth behind HOUR " + h, depth, x.water(0, 0));
        }
    }

    private static void sortsAreFive() {
        Due.sentence("TEXTS", "SORT: 'cove' | 'pool' | 'lagoon' | 'well' | 'dyke'");
        TideDebts x = Due.made(T + "water cove 1 1;water pool 1 1;water lagoon 1 1;water well 1 1;water dyke 1 1;");
        int[] kinds = {1, 3, 2, 5, 4};
        for (int w = 0; w < 5; w++) {
            Due.is("kind of " + w, kinds[w], x.kind(w));
        }
        String[] none = {
            "water", "tide", "cov", "coves", "poo", "pools", "lagoo", "lagoons", "wel", "wells", "dyk", "dykes", "a",
            "covf", "xove", "lagoom", "1", ";"};
        for (String sort : none) {
            fault(T + "water " + sort + " 1 1;", E + 6, 1);
        }
    }

    private static void depthsAre0To200() {
        Due.sentence("TEXTS", "0 to 200");
        TideDebts x = Due.made(T + "water cove 0 0;water dyke 200 0;");
        Due.is("0", 0, x.water(0, 0));
        Due.is("200", 200, x.water(1, 0));
        fault(T + "water cove 201 0;", E + 11, 2);
        fault(T + "water well 999 0;", E + 11, 2);
    }

    private static void sillsAre0To40() {
        Due.sentence("TEXTS", "0 to 40; WATERS");
        TideDebts x = Due.made(T + "water cove 0 0;water dyke 0 40;");
        Due.is("0", 0, x.water(0, 2));
        Due.is("40", 40, x.water(1, 2));
        fault(T + "water cove 0 41;", E + 13, 2);
        fault(T + "water well 0 200;", E + 13, 2);
    }

    private static void thereAreSixWatersAtMost() {
        Due.sentence("TEXTS", "WATERS 0 .. 5, 6 at most");
        for (int n = 0; n <= 6; n++) {
            reads(T + "water cove 1 1;".repeat(n), n);
            TideDebts x = Due.made(T + "water cove 1 1;".repeat(n));
            Due.is("waters", n, x.count(1));
            Due.is("kind of the one behind the last", BAD, x.kind(n));
            Due.is("kind of the last", n == 0 ? BAD : 1, x.kind(n - 1));
            Due.is("depth of the last", n == 0 ? BAD : 1, x.water(n - 1, 0));
        }
        fault(T + "water cove 1 1;".repeat(7), E + 90, 3);
    }

    private static void aBayStandsInPlaceOfTheOneBefore() {
        Due.sentence("TEXTS", "HOUR 0; nobody owes anything, there are no ARREARS; no ACT can be undone");
        TideDebts x = Due.made(Due.SPRING + "water cove 5 0;water dyke 100 0;water dyke 0 0;");
        x.lend(1, 0, 30);
        x.lend(1, 2, 30);
        x.hours(3);
        Due.is("arrears ahead", 5, x.water(0, 1));
        Due.is("the same text again, with a fourth", 4,
            Due.bay(x, Due.SPRING + "water cove 5 0;water dyke 100 0;water dyke 0 0;water well 3 3;"));
        Due.is("HOUR", 0, x.count(2));
        Due.is("debts", 0, x.count(5));
        Due.is("acts", 0, x.count(4));
        Due.is("undo", STATE, x.undo());
        int[] depths = {5, 100, 0, 3};
        for (int w = 0; w < 4; w++) {
            Due.is("depth of " + w, depths[w], x.water(w, 0));
            Due.is("arrears of " + w, 0, x.water(w, 1));
            Due.is("balance of " + w, 0, x.water(w, 3));
        }
        Due.is("an act of it", -40, x.hours(1));
        Due.is("a bay of none", 0, Due.bay(x, T));
        Due.is("waters", 0, x.count(1));
        Due.is("no water 0", BAD, x.water(0, 0));
        Due.is("depth in all", 0, x.count(3));
        Due.is("undo", STATE, x.undo());
    }

    private static void theFirstTokenThatHasAFault() {
        Due.sentence("FAULTS", "the first TOKEN that has one (its first byte)");
        fault("tide 41 99 x", 5, 2);
        fault("tide x 41", 5, 1);
        fault("tide 1 2 41 ; ;", 9, 2);
        fault(T + "water cove 201 41", E + 11, 2);
        fault(T + "water coven 201 41", E + 6, 1);
        fault(T + "water cove 1 41 ;;", E + 13, 2);
        fault(T + "water cove 1 1;\n  waterfall", E + 18, 1);
    }

    private static void ofOneTokenTheLeast() {
        Due.sentence("FAULTS", "of one TOKEN the least");
        fault("999", 0, 1);
        fault("tide 0 1 2 3 4 5 6 5 4 3 2 1 999;", 29, 1);
        fault("tide 9999", 5, 1);
        fault(T + "999", E, 1);
        fault(T + "water 999", E + 6, 1);
        fault(T + "water cove 1 1 999", E + 15, 1);
        fault(T + "water cove 1 1;".repeat(6) + "9999", E + 90, 1);
    }

    private static void itCannotStandThere() {
        Due.sentence("FAULTS", "1 it cannot stand there");
        fault(";", 0, 1);
        fault("cove", 0, 1);
        fault("tide tide", 5, 1);
        fault("tide 1 ;", 7, 1);
        fault("tide 1 water", 7, 1);
        fault(T + ";", E, 1);
        fault(T + "7", E, 1);
        fault(T + "cove 1 1;", E, 1);
        fault(T + "water;", E + 5, 1);
        fault(T + "water cove;", E + 10, 1);
        fault(T + "water cove 1;", E + 12, 1);
        fault(T + "water cove 1 x;", E + 13, 1);
        fault(T + "water cove 1 1 1", E + 15, 1);
        fault(T + "water cove 1 1 water", E + 15, 1);
    }

    private static void itIsNone() {
        Due.sentence("FAULTS", "or is none");
        fault("!", 0, 1);
        fault((char) 0 + "tide", 0, 1);
        fault("tide 1 ,", 7, 1);
        fault("tide 1000", 5, 1);
        fault(T + "#", E, 1);
        fault(T + "water ~", E + 6, 1);
        fault(T + "water cove 1 1!", E + 14, 1);
        fault(T + "water cove 1 1;" + (char) 255, E + 15, 1);
    }

    private static void theEnd() {
        Due.sentence("FAULTS", "(the end: how many bytes there are)");
        fault("", 0, 1);
        fault(" ", 1, 1);
        fault("\n \n", 3, 1);
        fault("tide", 4, 1);
        fault("tide 1 2 3  ", 12, 1);
        fault(T.substring(0, E - 1), E - 1, 1);
        fault(T + "water", E + 5, 1);
        fault(T + "water cove", E + 10, 1);
        fault(T + "water cove 1", E + 12, 1);
        fault(T + "water cove 1 1", E + 14, 1);
        fault(T + "water cove 1 1 \n", E + 16, 1);
        fault(" ".repeat(400), 400, 1);
    }

    private static void aNumberThatIsNotAsTold() {
        Due.sentence("FAULTS", "2 a NUMBER that is not as told");
        fault("tide 41", 5, 2);
        fault("tide 0 1 2 3 4 5 6 5 4 3 2 41", 27, 2);
        fault(T + "water pool 201", E + 11, 2);
        fault(T + "water pool 200 41", E + 15, 2);
        reads("tide 40 40 40 40 40 40 40 40 40 40 40 40;water pool 200 40;", 1);
    }

    private static void aWaterTooMany() {
        Due.sentence("FAULTS", "3 a water more than there is room for (its word)");
        String six = T + "water cove 1 1;".repeat(6);
        fault(six + "water cove 1 1;", E + 90, 3);
        fault(six + "water", E + 90, 3);
        fault(six + " \n water !", E + 93, 3);
        fault(six + "water water", E + 90, 3);
        fault(six + "waters", E + 90, 1);
        fault(six + ";", E + 90, 1);
        reads(six + " \n", 6);
    }

    private static void theTapeIsEmptyThen() {
        Due.sentence("Promise 7", "The tape, empty then, is read: how many WATERS there are");
        TideDebts x = Due.made(T + "water cove 1 1;");
        Due.is("bytes behind a bay", 0, x.count(6));
        Due.is("an empty tape has no bay", -1000100, x.bay());
        Due.is("a fault", -1000104, Due.bay(x, "tide"));
        Due.is("bytes behind a fault", 0, x.count(6));
        Due.is("nothing of it is read again", 2, Due.bay(x, T + "water cove 1 1;water cove 1 1;"));
        Due.is("bytes", 8, x.feed(0, 8));
        Due.bay(x, "1".repeat(392));
        Due.is("no figure of it stands behind a number", -1000106, Due.bay(x, "tide 1"));
        Due.bay(x, "e".repeat(400));
        Due.is("no letter of it stands behind a name", -1000103, Due.bay(x, "  \n"));
        Due.bay(x, "e".repeat(400));
        Due.is("no letter of it stands behind a name", -1000104, Due.bay(x, "tide"));
        Due.bay(x, ";".repeat(400));
        Due.is("no sign of it stands at the end", -1000100 - E + 1, Due.bay(x, T.substring(0, E - 1)));
    }

    private static void aFaultKeepsAll() {
        Due.sentence("Promise 7", "all stays");
        String[] texts = {
            "", "tide 40 40 40 40 40 40 40 40 40 40 40 40", "tide 9 9 9 9 9 9 9 9 9 9 9 9;water dyke 9 9;water !",
            T + "!", T + "water cove 1 1;".repeat(6) + "!"};
        for (String text : texts) {
            TideDebts x = Due.made(Due.TIDE + Due.FIVE);
            x.row(0, 0, 3);
            x.lend(0, 1, 5);
            x.hours(2);
            x.storm(7);
            x.ask(1, 0);
            Due.bay(x, "!");
            String was = Due.all(x);
            Due.is("a fault of '" + text + "'", 1, Due.bay(x, text) <= -1000100 ? 1 : 0);
            Due.same("behind '" + text + "'", was, Due.all(x));
            Due.is("acts are undone as before", 3, x.undo());
            Due.is("acts are undone as before", 2, x.undo());
            Due.is("HOUR", 1, x.count(2));
        }
    }

    private static void placesOfFaults() {
        Due.sentence("Promise 7", "-1000100 less the place of a FAULT");
        TideDebts x = new TideDebts();
        Due.is("place 0", -1000100, Due.bay(x, "x"));
        Due.is("place 1", -1000101, Due.bay(x, " x"));
        Due.is("place 399", -1000499, Due.bay(x, "\n".repeat(399) + "x"));
        Due.is("place 400", -1000500, Due.bay(x, "\n".repeat(400)));
    }

    private static void faultBeforeOne() {
        Due.sentence("Promise 8", "0 before one");
        TideDebts x = new TideDebts();
        Due.is("a new object", 0, x.fault());
        Due.bay(x, T);
        x.hours(0);
        x.set(0, 0, 0);
        x.feed(0, 0);
        Due.is("behind a bay, refusals and findings", 0, x.fault());
    }

    private static void latestFault() {
        Due.sentence("Promise 8", "The number of the latest FAULT");
        TideDebts x = new TideDebts();
        Due.bay(x, "tide 41");
        Due.is("2", 2, x.fault());
        Due.bay(x, T + "water cove 1 1;".repeat(7));
        Due.is("3", 3, x.fault());
        Due.bay(x, T);
        Due.is("3 behind a bay", 3, x.fault());
        x.hours(1);
        x.image(0);
        x.restore(0);
        Due.is("3 behind acts and images", 3, x.fault());
        x.bay();
        Due.is("1", 1, x.fault());
    }
}
