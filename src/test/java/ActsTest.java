/** Promises 9 to 16 and 29: HOURS, LOANS, payments, STORMS, NETS, what is undone, who has and owes what. */
public final class ActsTest {
    private static final int BAD = TideDebts.BAD, STATE = TideDebts.STATE, FULL = TideDebts.FULL;

    public static void main(String[] args) {
        hoursByKinds();
        hoursWithArrears();
        neapHours();
        hoursRefused();
        lends();
        lendsUpToTheMost();
        pays();
        storms();
        stormsThenHours();
        settles();
        undoes();
        forgetsTheOldest();
        counts();
        watersAndOwes();
        baysWithoutWaters();
        Due.end();
    }

    private static void state(TideDebts x, String when, int... depthsAndArrears) {
        for (int w = 0; w < depthsAndArrears.length / 2; w++) {
            Due.is(when + ": depth " + w, depthsAndArrears[2 * w], x.water(w, 0));
            Due.is(when + ": arrears " + w, depthsAndArrears[2 * w + 1], x.water(w, 1));
        }
    }

    private static void hoursByKinds() {
        // tide 0 6 14 22 30 31 30 22 14 6 1 0: RISE 6 8 8 8 1 -1 -8 -8 -8 -5 -1 0
        TideDebts x = Due.made(Due.TIDE + Due.FIVE);
        Due.is("RISE", 6, x.hours(1));
        state(x, "6, sill 15 is above", 18, 0, 20, 0, 12, 0, 30, 0, 50, 0);
        Due.is("RISE", 8, x.hours(1));
        state(x, "14 yet", 26, 0, 20, 0, 16, 0, 36, 0, 50, 0);
        Due.is("RISE", 8, x.hours(1));
        state(x, "22", 34, 0, 28, 0, 20, 0, 44, 0, 50, 0);
        Due.is("RISE of the last of three", -1, x.hours(3));
        state(x, "30, 31, 30", 42, 0, 36, 0, 24, 0, 61, 0, 50, 0);
        Due.is("RISE", -8, x.hours(2));
        state(x, "22, then 14 below the sill", 26, 0, 28, 0, 16, 0, 52, 0, 50, 0);
        Due.is("RISE", 0, x.hours(4));
        state(x, "round", 12, 0, 28, 0, 10, 0, 30, 0, 50, 0);
        Due.is("HOURS gone", 12, x.count(2));
        Due.is("RISE again", 6, x.hours(1));
        Due.is("the well has that of HOUR 11", 30, x.water(3, 0));
        x = Due.made("tide 10 10 10 10 10 10 10 10 10 10 10 3;water well 1 0;water pool 1 10;water pool 1 11;");
        Due.is("RISE of HOUR 0", 0, x.hours(1));
        state(x, "ahead of HOUR 0 there was HOUR 11", 8, 0, 1, 0, 1, 0);
        x.hours(10);
        state(x, "ebb below both sills", 8, 0, 1, 0, 1, 0);
        Due.is("flood", 7, x.hours(1));
        state(x, "at the sill it flows", 1, 0, 8, 0, 1, 0);
    }

    private static void hoursWithArrears() {
        TideDebts x = Due.made("tide 40 33 34 40 40 40 40 40 40 40 40 40;"
            + "water cove 3 0;water lagoon 1 0;water pool 7 33;water dyke 0 0;water well 5 0;");
        Due.is("RISE", -7, x.hours(1));
        state(x, "what is not there is arrears", 0, 4, 0, 2, 0, 0, 0, 0, 5, 0);
        Due.is("RISE", 1, x.hours(1));
        state(x, "flood against arrears, half of 1 is none, the well ebbs", 0, 3, 0, 2, 1, 0, 0, 0, 0, 2);
        Due.is("RISE", 6, x.hours(1));
        state(x, "the rest comes to the depth", 3, 0, 1, 0, 7, 0, 0, 0, 0, 1);
        x.hours(1);
        state(x, "the well, an HOUR later", 3, 0, 1, 0, 7, 0, 0, 0, 5, 0);
    }

    private static void neapHours() {
        // RISE: 2, 1, 0, -1, -2, 0 ..
        TideDebts x = Due.made("tide 10 12 13 13 12 10 10 10 10 10 10 10;water dyke 100 0;water dyke 50 0;");
        x.lend(0, 1, 19);
        x.lend(1, 0, 9);
        Due.is("RISE", 2, x.hours(1));
        Due.is("no neap", 19, x.owes(1, 0));
        Due.is("RISE", 1, x.hours(1));
        Due.is("a tenth, cut", 20, x.owes(1, 0));
        Due.is("a tenth of 9 is none", 9, x.owes(0, 1));
        Due.is("RISE", 0, x.hours(1));
        Due.is("of 20", 22, x.owes(1, 0));
        Due.is("RISE", -1, x.hours(1));
        Due.is("of 22", 24, x.owes(1, 0));
        Due.is("RISE", -2, x.hours(1));
        Due.is("no neap", 24, x.owes(1, 0));
        Due.is("no depth moves", 90, x.water(0, 0));
        for (int i = 0; i < 10; i++) {
            x.hours(12);
        }
        Due.is("at most", 9999, x.owes(1, 0));
        Due.is("a debt that stays small", 9, x.owes(0, 1));
    }

    private static void hoursRefused() {
        TideDebts x = Due.made(Due.NEAP + "water cove 5 0;");
        Due.is("0", BAD, x.hours(0));
        Due.is("25", BAD, x.hours(25));
        Due.is("-1", BAD, x.hours(-1));
        Due.is("largest", BAD, x.hours(Integer.MAX_VALUE));
        for (int i = 0; i < 41; i++) {
            x.hours(24);
        }
        Due.is("984 gone", 984, x.count(2));
        Due.is("BAD comes ahead of FULL", BAD, x.hours(25));
        Due.is("1000", FULL, x.hours(16));
        Due.is("none went by", 984, x.count(2));
        Due.is("999", 1, x.hours(15));
        Due.is("one more", FULL, x.hours(1));
        Due.is("ahead is not bound", 11, x.ahead(0, 3, 0));
        Due.is("undone", 23, x.undo());
        Due.is("998 gone", 998, x.count(2));
        Due.is("999 again", 1, x.hours(1));
    }

    private static void lends() {
        TideDebts x = Due.made(Due.SPRING + "water cove 30 0;water dyke 10 0;water pool 5 40;");
        Due.is("a loan", 7, x.lend(0, 1, 7));
        Due.is("another", 10, x.lend(0, 1, 3));
        state(x, "lent", 20, 0, 20, 0, 5, 0);
        Due.is("who got it owes", 10, x.owes(1, 0));
        Due.is("who gave does not", 0, x.owes(0, 1));
        Due.is("a loan back is a debt of its own", 20, x.lend(1, 0, 20));
        Due.is("one way", 10, x.owes(1, 0));
        Due.is("the other", 20, x.owes(0, 1));
        Due.is("not there", STATE, x.lend(1, 2, 1));
        Due.is("more than it has", STATE, x.lend(0, 2, 41));
        Due.is("all", 40, x.lend(0, 2, 40));
        Due.is("alike", BAD, x.lend(2, 2, 1));
        Due.is("0", BAD, x.lend(2, 0, 0));
        Due.is("1000", BAD, x.lend(2, 0, 1000));
        Due.is("999", STATE, x.lend(2, 0, 999));
        Due.is("-1", BAD, x.lend(2, 0, -1));
        Due.is("from 3", BAD, x.lend(3, 0, 1));
        Due.is("from -1", BAD, x.lend(-1, 0, 1));
        Due.is("to 3", BAD, x.lend(0, 3, 1));
        Due.is("to -1", BAD, x.lend(0, -1, 1));
        Due.is("acts", 4, x.count(4));
        x.hours(1);
        state(x, "ebb 40", 0, 40, 0, 0, 45, 0);
        Due.is("a loan to one in arrears", 45, x.lend(2, 0, 45));
        state(x, "comes to its depth", 45, 40, 0, 0, 0, 0);
    }

    private static void lendsUpToTheMost() {
        TideDebts x = Due.made(Due.NEAP + "water dyke 200 0;water dyke 200 0;water dyke 0 0;");
        x.lend(0, 1, 200);
        for (int i = 0; i < 3; i++) {
            x.hours(12);
        }
        // 200, a tenth more (cut) thirty-six times over
        int debt = 200;
        for (int i = 0; i < 36; i++) {
            debt += debt / 10;
        }
        Due.is("grown", debt, x.owes(1, 0));
        for (int i = 0; i < 2; i++) {
            x.hours(12);
        }
        Due.is("at most", 9999, x.owes(1, 0));
        Due.is("it has nothing to lend", STATE, x.lend(0, 1, 1));
        x.pay(1, 0, 100);
        Due.is("9899", 9899, x.owes(1, 0));
        Due.is("9999 and no more", 9999, x.lend(0, 1, 100));
        x.lend(1, 0, 5);
        Due.is("9999 and 1", FULL, x.lend(0, 1, 1));
        Due.is("STATE comes ahead of FULL", STATE, x.lend(0, 1, 6));
        Due.is("BAD comes ahead of both", BAD, x.lend(0, 1, 1000));
        Due.is("nothing moved", 5, x.water(0, 0));
    }

    private static void pays() {
        TideDebts x = Due.made(Due.SPRING + "water dyke 30 0;water dyke 10 0;water dyke 0 0;");
        x.lend(0, 1, 20);
        Due.is("some", 15, x.pay(1, 0, 5));
        state(x, "paid", 15, 0, 25, 0, 0, 0);
        Due.is("more than it owes", STATE, x.pay(1, 0, 16));
        x.lend(1, 2, 20);
        Due.is("more than it has", STATE, x.pay(1, 0, 6));
        Due.is("what it has", 10, x.pay(1, 0, 5));
        Due.is("it owes nothing", STATE, x.pay(0, 1, 1));
        Due.is("alike", BAD, x.pay(1, 1, 1));
        Due.is("0", BAD, x.pay(1, 0, 0));
        Due.is("-1", BAD, x.pay(1, 0, -1));
        Due.is("10000", BAD, x.pay(1, 0, 10000));
        Due.is("9999", STATE, x.pay(1, 0, 9999));
        Due.is("from 3", BAD, x.pay(3, 0, 1));
        Due.is("to 3", BAD, x.pay(0, 3, 1));
        Due.is("to -1", BAD, x.pay(0, -1, 1));
        Due.is("all", 0, x.pay(2, 1, 20));
        Due.is("debts", 1, x.count(5));
        Due.is("acts", 5, x.count(4));
    }

    private static void storms() {
        TideDebts x = Due.made(Due.SPRING + "water cove 5 0;water lagoon 5 0;water pool 5 40;water well 5 0;");
        // 16807 by 9: 4; 282475249: 7; 1622650073: 5; 984943658: 2
        Due.is("SEED 1", 18, x.storm(1));
        state(x, "depth and arrears", 9, 4, 12, 7, 10, 5, 7, 2);
        Due.is("SEED 1 again", 18, x.storm(1));
        state(x, "more of both", 13, 8, 19, 14, 15, 10, 9, 4);
        Due.is("0", BAD, x.storm(0));
        Due.is("-1", BAD, x.storm(-1));
        Due.is("1000000", BAD, x.storm(1000000));
        Due.is("acts", 2, x.count(4));
        Due.is("greatest", 9, x.storm(999999));
    }

    private static void stormsThenHours() {
        TideDebts x = Due.made("tide 0 3 9 0 0 0 0 0 0 0 0 0;water cove 0 0;");
        x.storm(1);
        state(x, "storm", 4, 4);
        x.hours(1);
        state(x, "flood goes against arrears first", 4, 1);
        x.hours(1);
        state(x, "then to the depth", 9, 0);
        x.storm(1);
        x.hours(1);
        state(x, "ebb is of the depth first", 4, 4);
    }

    private static void settles() {
        TideDebts x = Due.made(Due.SPRING + "water dyke 30 0;water dyke 30 0;water dyke 30 0;water dyke 30 0;");
        Due.is("nothing owed", 0, x.settle());
        Due.is("an act all the same", 1, x.count(4));
        x.lend(0, 1, 20);
        x.lend(1, 2, 15);
        x.lend(2, 0, 5);
        x.lend(3, 0, 1);
        // balances: -20 + 5 + 1 = -14; 20 - 15 = 5; 15 - 5 = 10; -1
        Due.is("balance 0", -14, x.water(0, 3));
        Due.is("balance 1", 5, x.water(1, 3));
        Due.is("balance 2", 10, x.water(2, 3));
        Due.is("balance 3", -1, x.water(3, 3));
        Due.is("moved", 15, x.settle());
        state(x, "as before all loans", 30, 0, 30, 0, 30, 0, 30, 0);
        Due.is("no debts", 0, x.count(5));
        for (int from = 0; from < 4; from++) {
            for (int to = 0; to < 4; to++) {
                Due.is("nobody owes another one", from == to ? BAD : 0, x.owes(from, to));
            }
            Due.is("no balance", 0, x.water(from, 3));
        }
        Due.is("acts", 6, x.count(4));
        x.lend(0, 1, 20);
        x.lend(2, 1, 5);
        x.lend(1, 3, 31);
        // balances: -20, 25 - 31, -5, 31: the fourth has 61
        Due.is("moved", 31, x.settle());
        state(x, "settled", 30, 0, 30, 0, 30, 0, 30, 0);
        TideDebts y = Due.made(Due.SPRING + "water cove 9 0;water dyke 9 0;");
        y.lend(1, 0, 9);
        y.hours(1);
        Due.is("one has less than its balance", STATE, y.settle());
        Due.is("the debt stays", 9, y.owes(0, 1));
        Due.is("no act of it", 2, y.count(4));
        y.hours(1);
        state(y, "flood", 18, 0, 0, 0);
        Due.is("now it can be", 9, y.settle());
        state(y, "settled", 9, 0, 9, 0);
    }

    private static void undoes() {
        TideDebts x = Due.made(Due.NEAP + "water cove 30 0;water lagoon 10 0;water well 3 0;");
        String[] was = new String[8];
        was[0] = Due.bayOf(x);
        x.lend(0, 1, 20);
        was[1] = Due.bayOf(x);
        x.hours(1);
        was[2] = Due.bayOf(x);
        x.storm(77);
        was[3] = Due.bayOf(x);
        x.pay(1, 0, 3);
        was[4] = Due.bayOf(x);
        x.settle();
        was[5] = Due.bayOf(x);
        x.hours(2);
        for (int i = 6; i >= 0; i--) {
            Due.is("undo", i, x.undo());
            if (i <= 5) {
                Due.same("as it was ahead of act " + i, was[i], Due.bayOf(x));
            }
        }
        Due.is("none", STATE, x.undo());
        x.hours(1);
        Due.is("an act behind an undone one", 0, x.undo());
        Due.same("as at first", was[0], Due.bayOf(x));
    }

    private static void forgetsTheOldest() {
        TideDebts x = Due.made(Due.SPRING + "water dyke 99 0;water dyke 0 0;");
        for (int i = 1; i <= 30; i++) {
            x.lend(0, 1, 1);
        }
        Due.is("24 are kept", 24, x.count(4));
        for (int i = 23; i >= 0; i--) {
            Due.is("undo", i, x.undo());
        }
        Due.is("no more", STATE, x.undo());
        Due.is("six stay", 6, x.owes(1, 0));
        x.hours(24);
        x.hours(3);
        Due.is("an HOUR is an act", 24, x.count(4));
        x.undo();
        Due.is("one HOUR is undone", 26, x.count(2));
        x.lend(0, 1, 2);
        Due.is("kept again", 24, x.count(4));
        for (int i = 0; i < 24; i++) {
            x.undo();
        }
        Due.is("the oldest HOURS are forgotten", 3, x.count(2));
        Due.is("the loan is not", 6, x.owes(1, 0));
    }

    private static void counts() {
        TideDebts x = Due.made(Due.SPRING + "water dyke 9 0;water dyke 8 0;water cove 7 0;");
        x.row(3, 0, 1);
        x.row(5, 2, 0);
        x.lend(0, 1, 1);
        x.lend(1, 0, 1);
        x.lend(1, 2, 1);
        x.hours(2);
        x.feed(0, 5);
        int[] want = {2, 3, 2, 24, 5, 3, 5};
        for (int c = 0; c < 7; c++) {
            Due.is("count " + c, want[c], x.count(c));
        }
        Due.is("count 7", BAD, x.count(7));
        Due.is("count -1", BAD, x.count(-1));
        x.pay(1, 0, 1);
        Due.is("a debt that is paid is none", 2, x.count(5));
    }

    private static void watersAndOwes() {
        TideDebts x = Due.made(Due.SPRING + "water dyke 9 4;water pool 8 6;");
        x.lend(0, 1, 5);
        int[] want = {4, 0, 4, -5};
        for (int what = 0; what < 4; what++) {
            Due.is("water 0, " + what, want[what], x.water(0, what));
        }
        Due.is("what 4", BAD, x.water(0, 4));
        Due.is("what -1", BAD, x.water(0, -1));
        Due.is("water 2", BAD, x.water(2, 0));
        Due.is("water -1", BAD, x.water(-1, 0));
        Due.is("owes", 5, x.owes(1, 0));
        Due.is("owes none", 0, x.owes(0, 1));
        Due.is("alike", BAD, x.owes(1, 1));
        Due.is("no such one", BAD, x.owes(2, 0));
        Due.is("no such other", BAD, x.owes(0, 2));
        Due.is("-1", BAD, x.owes(-1, 0));
        Due.is("to -1", BAD, x.owes(0, -1));
    }

    private static void baysWithoutWaters() {
        TideDebts x = Due.made(Due.TIDE);
        Due.is("hours", 8, x.hours(2));
        Due.is("storm", 0, x.storm(5));
        Due.is("settle", 0, x.settle());
        Due.is("acts", 4, x.count(4));
        Due.is("undo", 3, x.undo());
        Due.is("run", 0, x.run());
        Due.is("net", 0, x.net(-1, 0));
        Due.is("can be", 1, x.net(-2, 0));
        Due.is("image", 1, x.image(1));
        Due.is("water", BAD, x.water(0, 0));
    }
}
