/** Promises 35 to 39: moneys, what didn't come. */
public final class MoneysTest {
    private static void path(Counted x, int money, int coins, int n, long most, int... had) {
        String what = "35: " + coins + " of " + money + " over " + n;
        Check.due(what, x.changing(money, coins, n, 0), most);
        for (int k = 0; k < 10; k++) {
            Check.due(what + ", had behind " + k, x.changing(money, coins, n, 10 + k), k < had.length ? had[k] : -1);
        }
    }

    private static void changes() {
        // WORTH 10 and 10 at even FAIRS, 5 and 20 at odd ones
        Counted x = Check.of("fairs 2 moneys 2;worth : 10 + fair * (money * 15 - 5);");
        path(x, 0, 10, 0, 100, 0);
        path(x, 1, 10, 0, 100, 0);
        path(x, 0, 1, 0, 10, 0);
        path(x, 0, 999, 0, 9990, 0);
        path(x, 0, 10, 1, 200, 1, 0);
        path(x, 0, 10, 2, 400, 1, 0, 0);
        path(x, 0, 10, 9, 51200, 1, 0, 1, 0, 1, 0, 1, 0, 1, 0);
        Check.due("35: money", x.changing(2, 0, 0, 0), -2);
        Check.due("35: money", x.changing(-1, 1, 0, 0), -2);
        for (int what : new int[] {-1, 1, 9, 20}) Check.due("35: what", x.changing(0, 0, 10, what), -2);
        Check.due("35: coins", x.changing(0, 0, 0, 10), -3);
        Check.due("35: coins", x.changing(0, 1000, 0, 0), -3);
        Check.due("35: n", x.changing(0, 1, -1, 0), -3);
        Check.due("35: n", x.changing(0, 1, 10, 19), -3);
        x.hold(1, false);
        path(x, 1, 3, 0, 60, 0);
        path(x, 1, 3, 1, 120, 0, 0);
        // 3 and 7: 10 coins of 0 would be 4 of 1
        Counted y = Check.of("fairs 1 moneys 2;worth : 3 + money * 4;");
        path(y, 0, 10, 0, 30, 0);
        path(y, 1, 10, 2, 70, 1, 1, 1);
        path(y, 1, 3, 2, 21, 0, 0, 0);
        path(y, 0, 7, 1, 21, 0, 0);
        // 999 and 1, then 1 and 999: from the third changing on there are 1,000,000,000 coins
        Counted z = Check.of("fairs 2 moneys 2;worth : 999 - 998 * (fair - money) * (fair - money);");
        path(z, 0, 999, 1, 997002999L, 1, 0);
        path(z, 0, 999, 2, 996005996001L, 1, 0, 0);
        path(z, 0, 999, 3, 999000000000L, 1, 0, 1, 1);
        path(z, 0, 999, 4, 999000000000L, 1, 0, 1, 0, 0);
        // of like ones the first: all three are WORTH the same
        Counted w = Check.of("fairs 1 moneys 3;worth : 4;");
        path(w, 2, 5, 3, 20, 0, 0, 0, 0);
        Check.due("35: nothing changes", w.count(8), 0);
    }

    private static void interests() {
        Counted x = Check.of("fairs 2 moneys 2;worth : 10 + fair * (money * 15 - 5);");
        Check.due("36: half", x.interest(0, 1), 5000);
        Check.due("36: twice", x.interest(1, 99), 20000);
        Check.due("36: now", x.interest(1, 0), 10000);
        Check.due("36: money", x.interest(2, 100), -2);
        Check.due("36: money", x.interest(-1, 0), -2);
        Check.due("36: n", x.interest(0, -1), -3);
        Check.due("36: n", x.interest(0, 100), -3);
        Check.due("37: 1", x.dearest(1), 1);
        Check.due("37: the first of like ones", x.dearest(2), 0);
        Check.due("37: now all are alike", x.dearest(0), 0);
        Check.due("37: n", x.dearest(-1), -3);
        Check.due("37: n", x.dearest(100), -3);
        x.hold(1, false);
        Check.due("36: from 5 to 10", x.interest(0, 1), 20000);
        Check.due("37: 0 now", x.dearest(99), 0);
        // 998 to 999 and 997 to 998: cut alike, but not alike
        Counted y = Check.of("fairs 2 moneys 2;worth : 998 + fair - money;");
        Check.due("36: cut", y.interest(0, 1), 10010);
        Check.due("36: cut", y.interest(1, 1), 10010);
        Check.due("37: as a fraction", y.dearest(1), 1);
        Counted z = Check.of("fairs 6 moneys 1;worth : 1 + year * 998;");
        Check.due("36: most", z.interest(0, 6), 9990000);
    }

    private static void seen(Counted x, int letters, int tells, long... cash) {
        Check.tray(x, 1, cash);
        Check.due("38: of " + cash[0] + " " + cash[1] + " " + cash[2], x.missing(1), letters);
        Check.due("39: of " + cash[0] + " " + cash[1] + " " + cash[2], x.look(1), tells);
    }

    private static void missing() {
        Counted x = Check.of("fairs 1 moneys 1;merchant 10;merchant 0;merchant 5;letter 0 to 1 of 8 at 0 late 9;"
            + "letter 1 to 2 of 7 at 0;letter 2 to 0 of 6 at 0;letter 2 to 0 of 1 at 1;");
        // without 0: 1 breaks, then 2: 10 0 5; without 1: 2 breaks: 2 8 5; without 2: 2 1 12
        seen(x, 1, 0, 10, -1, -1);
        seen(x, 1, 0, 10, 0, 5);
        seen(x, 6, 1, 2, -1, -1);
        seen(x, 7, 1, -1, -1, -1);
        seen(x, 3, 0, -1, -1, 5);
        seen(x, 4, 0, -1, 1, -1);
        seen(x, 0, -1, 8, 1, 6);
        seen(x, 0, -1, -2, -1, -1);
        seen(x, 0, -1, 4294967306L, -1, -1);
        seen(x, 0, -1, 2, 8, 12);
        for (int tray : new int[] {-1, 4}) {
            Check.due("38: tray", x.missing(tray), -2);
            Check.due("39: tray", x.look(tray), -2);
        }
        Check.due("38: missing", x.missing(0), -6);
        Check.due("39: missing", x.look(0), -6);
        x.numbers(0, 0, 2);
        Check.due("38: not as many", x.missing(0), -4);
        Check.due("39: not as many", x.look(0), -4);
        x.numbers(0, 0, 4);
        Check.due("38: not as many", x.missing(0), -4);
        Check.due("38: nothing is done", x.count(5), 15);
        Counted none = new Counted();
        none.numbers(0, 0, 0);
        Check.due("38: no merchants", none.missing(0), 0);
        Check.due("39: no merchants", none.look(0), -1);
        // time given counts too: without 0, 1 is short by 7, and has time
        Counted y = Check.of("fairs 1 moneys 1;merchant 10;merchant 0;merchant 5;letter 0 to 1 of 8 at 0;"
            + "letter 1 to 2 of 7 at 0;letter 2 to 0 of 6 at 0;time : short = 7;");
        // then 2 is short by 1 and breaks
        seen(y, 1, 0, 10, 0, 5);
        // fours of like letters: 1 tells all apart, 0 none
        Counted z = Check.of("fairs 1 moneys 1;merchant 90;merchant 0;merchant 0;letter 0 to 1 of 5 at 0;"
            + "letter 0 to 2 of 5 at 0;letter 0 to 1 of 5 at 0;letter 0 to 2 of 6 at 0;");
        // cash of 0: 74 74 74 75; of 1: 5 10 5 10; of 2: 11 6 11 5
        seen(z, 15, 1, -1, -1, -1);
        seen(z, 7, 1, 74, -1, -1);
        seen(z, 10, 0, -1, 10, -1);
    }

    public static void main(String[] args) {
        changes();
        interests();
        missing();
        Check.close("MoneysTest");
    }
}
