/** The third part of the document's Terms, what is to come, and promises 18 to 39: each bound, sentence by sentence. */
public final class AheadBoundsTest {
    private static final String HEAD = "fairs 1 moneys 1;";
    private static final int LEAST = Integer.MIN_VALUE;
    private static final int GREATEST = Integer.MAX_VALUE;

    // ---- promises 18 to 21

    private static void due() {
        Check.says("Letters DUE in n FAIRS (0 to 30) as they are now, as bits. -3.");
        Counted x = Check.of(HEAD + "merchant 9;merchant 0;merchant 0;fair 999;letter 0 to 1 of 1 at 0;"
            + "letter 0 to 1 of 1 at 19;".repeat(10)
            + "letter 0 to 1 of 1 at 20;");
        Check.due("due(0)", x.due(0), 1);
        Check.due("due(1)", x.due(1), 0);
        Check.due("due(19)", x.due(19), 2046);
        Check.due("due(20)", x.due(20), 2048);
        Check.due("due(21)", x.due(21), 0);
        Check.due("due(30)", x.due(30), 0);
        for (int n : new int[] {-1, 31, LEAST, GREATEST}) Check.due("due(" + n + ")", x.due(n), -3);
        x.pay(11);
        Check.due("paid", x.due(20), 0);
        x.hold(2, false);
        Check.due("nearer", x.due(17), 2046);
        Check.due("nearer", x.due(19), 0);

        Check.says("NET of a MERCHANT by these (0: it is BROKEN). -99000002; -99000003: n (0 to 30).");
        x = Check.of(HEAD + "merchant 9;merchant 0;merchant 0;letter 0 to 1 of 999 at 20;letter 1 to 0 of 1 at 20;"
            + "letter 2 to 0 of 5 at 0;letter 0 to 1 of 4 at 1;letter 2 to 1 of 4 at 1;");
        Check.due("net(0, 20)", x.net(0, 20), -998);
        Check.due("net(1, 20)", x.net(1, 20), 998);
        Check.due("net(2, 20)", x.net(2, 20), 0);
        Check.due("net(2, 0)", x.net(2, 0), -5);
        Check.due("net(2, 1)", x.net(2, 1), -4);
        Check.due("net(0, 30)", x.net(0, 30), 0);
        x.hold(1, false);
        Check.due("broken", x.net(2, 0), 0);
        Check.due("0's still", x.net(0, 0), -4);
        for (int n : new int[] {-1, 31, LEAST, GREATEST}) Check.due("net(0, " + n + ")", x.net(0, n), -99000003);
        for (int m : new int[] {-1, 3, LEAST, GREATEST}) Check.due("net(" + m + ", 0)", x.net(m, 0), -99000002);

        Check.says("COIN at a FAIR: what all owe NET, in sum, of letters DUE there as they are now (nobody SHORT, "
            + "none VOID then); GROSS: of how much these letters are; CANCELLED: GROSS less COIN.");
        x = Check.of(HEAD + "merchant 0;".repeat(3) + "letter 0 to 1 of 5 at 0;letter 1 to 0 of 3 at 0;"
            + "letter 1 to 2 of 9 at 0;letter 0 to 1 of 7 at 1;letter 1 to 2 of 7 at 1;letter 2 to 0 of 7 at 1;"
            + "letter 0 to 2 of 999 at 20;");
        // here 0: -2, 1: -7, 2: 9, though nobody has any cash
        int[][] coins = {{0, 9, 17, 8}, {1, 0, 21, 21}, {2, 0, 0, 0}, {20, 999, 999, 0}, {30, 0, 0, 0}};
        for (int[] row : coins) {
            for (int what = 0; what < 3; what++) {
                Check.due("coin(" + row[0] + ", " + what + ")", x.coin(row[0], what), row[1 + what]);
            }
        }
        Check.says("Of the FAIR in n FAIRS (0 to 30), what 0: COIN, 1: GROSS, 2: CANCELLED. -2: what; -3.");
        for (int what : new int[] {-1, 3, LEAST, GREATEST}) Check.due("what " + what, x.coin(0, what), -2);
        for (int n : new int[] {-1, 31, LEAST, GREATEST}) Check.due("coin(" + n + ", 0)", x.coin(n, 0), -3);

        Check.says("The FAIR to come (in 0 to 30) with the greatest COIN, the first: in how many FAIRS.");
        Check.due("without letters", Check.of(HEAD).heaviest(), 0);
        x = Check.of(HEAD + "merchant 0;merchant 0;");
        x.write(0, 1, 5, 20);
        Check.due("the farthest", x.heaviest(), 20);
        x.write(0, 1, 1, 1);
        Check.due("a greater one", x.heaviest(), 20);
        x.write(1, 0, 5, 3);
        Check.due("the first of like ones", x.heaviest(), 3);
        x.write(0, 1, 6, 11);
        Check.due("the greatest", x.heaviest(), 11);
        x.write(1, 0, 2, 11);
        Check.due("by coin, not by gross", x.heaviest(), 3);
        x.write(0, 1, 5, 0);
        Check.due("this one", x.heaviest(), 0);
        x = Check.of(HEAD + "merchant 0;merchant 0;letter 0 to 1 of 9 at 4;letter 1 to 0 of 9 at 4;");
        Check.due("all cancelled", x.heaviest(), 0);
        x.write(0, 1, 1, 1);
        Check.due("the next one", x.heaviest(), 1);
    }

    // ---- promises 22 to 28

    /** 0 owes 5 and has time till the fair told, where it breaks. */
    private static Counted till(int fair) {
        return Check.of(HEAD + "merchant 4;merchant 7;letter 0 to 1 of 5 at 0;time : year < " + fair + ";");
    }

    private static void ahead() {
        Check.says("FAIRS are held one behind the other, this one first, nothing late, nothing else being done: "
            + "within n FAIRS: these n.");
        Counted x = Check.of(HEAD + "merchant 5;merchant 0;letter 0 to 1 of 1 at 0 late 9;"
            + "letter 0 to 1 of 2 at 1 late 9;letter 0 to 1 of 2 at 2 late 9;");
        int[] cash = {5, 4, 2, 0, 0};
        for (int n = 0; n < 5; n++) Check.due("cashIn(0, " + n + ")", x.cashIn(0, n), cash[n]);

        // nothing is late, whatever x is: 0 breaks by its first letter, then 2 by its own
        for (int seed = 0; seed < 40; seed++) {
            x = Check.of(HEAD + "merchant 4;merchant 0;merchant 0;letter 0 to 2 of 5 at 0 late 9;"
                + "letter 2 to 1 of 5 at 0 late 9;letter 1 to 0 of 5 at 1 late 9;");
            x.seed(seed);
            Check.due("cashIn", x.cashIn(0, 1), 4);
            Check.due("breaksIn", x.breaksIn(0), 1);
            Check.due("broken", x.broken(1), 5);
            Check.due("chain", x.chain(1, 1), 0);
            Check.due("chain", x.chain(2, 1), 0);
            Check.due("pillar", x.pillar(1), -1);
            Check.due("pillar", x.pillar(2), 2);
            Check.due("saves", x.saves(0, 1), 1);
            Check.due("favour", x.favour(1, 1), 0);
            Check.due("vital", x.vital(), -1);
            Check.tray(x, 0, -1, -1, 5);
            Check.due("missing", x.missing(0), 0);
            Check.due("lists", x.lists(0), 3);
            Check.due("missing", x.missing(0), 3);
            Check.due("look", x.look(0), 0);
            x.lend(0, 1, 4);
            x.lend(1, 2, 4);
            x.write(1, 0, 5, 0);
            Check.due("vital", x.vital(), 0);
            Check.due("x", x.seed(0), seed);
        }

        Check.says("CASH of a MERCHANT behind n FAIRS (0 to 30). -2; -3.");
        x = Check.of(HEAD + "merchant 5;merchant 0;merchant 1;letter 1 to 0 of 6 at 0;letter 0 to 1 of 5 at 9;"
            + "time : year < 29;");
        // 1 has time till fair 29, where it has 5 of 6 and breaks
        int[][] ways = {{0, 5, 0}, {9, 5, 0}, {10, 0, 5}, {29, 0, 5}, {30, 0, 5}};
        for (int[] row : ways) {
            Check.due("cashIn(0, " + row[0] + ")", x.cashIn(0, row[0]), row[1]);
            Check.due("cashIn(1, " + row[0] + ")", x.cashIn(1, row[0]), row[2]);
        }
        x.lend(2, 1, 1);
        // now it pays at fair 9, of what it has and what comes there
        Check.due("cashIn(1, 9)", x.cashIn(1, 9), 1);
        Check.due("cashIn(1, 10)", x.cashIn(1, 10), 0);
        Check.due("cashIn(0, 10)", x.cashIn(0, 10), 6);
        for (int m : new int[] {-1, 3, LEAST, GREATEST}) Check.due("cashIn(" + m + ", 0)", x.cashIn(m, 0), -2);
        for (int n : new int[] {-1, 31, LEAST, GREATEST}) Check.due("cashIn(0, " + n + ")", x.cashIn(0, n), -3);
        // 3 breaks at fair 28, so that 0 has enough for 1 at fair 29
        x = Check.of(HEAD + "merchant 5;merchant 0;merchant 0;merchant 0;letter 0 to 1 of 5 at 0;"
            + "letter 0 to 3 of 5 at 0;letter 3 to 2 of 1 at 0;time : who = 0 or year < 28;");
        Check.due("cashIn(1, 29)", x.cashIn(1, 29), 0);
        Check.due("cashIn(1, 30)", x.cashIn(1, 30), 5);

        Check.says("Behind how many FAIRS (1 to 30) it is BROKEN first (0: it is). NONE: not by then; -2.");
        for (int fair = 0; fair <= 31; fair++) {
            Check.due("time till " + fair, till(fair).breaksIn(0), fair < 30 ? fair + 1 : -1);
        }
        x = till(30);
        x.hold(1, false);
        Check.due("30 from the next on", x.breaksIn(0), 30);
        x.hold(20, false);
        Check.due("10", x.breaksIn(0), 10);
        x.hold(10, false);
        Check.due("it is", x.breaksIn(0), 0);
        Check.due("the other one never", x.breaksIn(1), -1);
        for (int m : new int[] {-1, 2, LEAST, GREATEST}) Check.due("breaksIn(" + m + ")", x.breaksIn(m), -2);

        Check.says("Who is BROKEN behind n FAIRS (0 to 30), as bits. -3.");
        x = Check.of(HEAD + "merchant 0;".repeat(6) + "letter 0 to 5 of 1 at 0;letter 4 to 5 of 1 at 1;"
            + "letter 1 to 0 of 1 at 20;letter 3 to 5 of 1 at 0;time : who = 3 and year < 29;");
        // 1's letter is to 0, who breaks: void
        int[][] rows = {{0, 0}, {1, 1}, {2, 17}, {21, 17}, {29, 17}, {30, 25}};
        for (int[] row : rows) Check.due("broken(" + row[0] + ")", x.broken(row[0]), row[1]);
        x.hold(2, false);
        Check.due("broken(0)", x.broken(0), 17);
        for (int n : new int[] {-1, 31, LEAST, GREATEST}) Check.due("broken(" + n + ")", x.broken(n), -3);
    }

    private static void chains() {
        Check.says("Who else BREAKS within n FAIRS (1 to 30), if a MERCHANT BROKE now, ahead of this one, and "
            + "doesn't as it is, as bits. -2; -3; -5: it is BROKEN.");
        Counted x = Check.of(HEAD + "merchant 9;merchant 0;merchant 0;merchant 0;merchant 3;letter 0 to 1 of 5 at 0;"
            + "letter 1 to 2 of 5 at 0;letter 2 to 3 of 5 at 1;letter 3 to 4 of 6 at 2;letter 4 to 0 of 2 at 0;");
        // 3 breaks at 2 anyhow: it is owed 5 and owes 6
        int[][] rows = {{0, 1, 2}, {0, 2, 6}, {0, 3, 6}, {0, 30, 6}, {1, 1, 0}, {1, 2, 4}, {2, 30, 0}, {3, 30, 0},
            {4, 30, 0}};
        for (int[] row : rows) Check.due("chain(" + row[0] + ", " + row[1] + ")", x.chain(row[0], row[1]), row[2]);
        for (int m : new int[] {-1, 5, LEAST, GREATEST}) Check.due("chain(" + m + ", 1)", x.chain(m, 1), -2);
        for (int n : new int[] {0, -1, 31, LEAST, GREATEST}) Check.due("chain(0, " + n + ")", x.chain(0, n), -3);
        // ahead of this fair: what it would pay here is void
        x = Check.of(HEAD + "merchant 5;merchant 0;merchant 0;letter 0 to 1 of 5 at 0;letter 1 to 2 of 5 at 0;");
        Check.due("ahead of this one", x.chain(0, 1), 2);
        Check.due("as it is nobody", x.broken(30), 0);
        x = Check.of(HEAD + "merchant 5;merchant 0;merchant 0;merchant 0;letter 0 to 1 of 5 at 0;"
            + "letter 1 to 2 of 5 at 0;letter 3 to 2 of 1 at 0;time : who = 1 and year < 29;");
        Check.due("within 29", x.chain(0, 29), 0);
        Check.due("within 30", x.chain(0, 30), 2);
        x.hold(1, false);
        Check.due("3 is broken", x.chain(3, 1), -5);

        Check.says("The MERCHANT, not BROKEN, whose chain() within n FAIRS (1 to 30) is of most, the first. NONE: "
            + "all are of none; -3.");
        x = Check.of(HEAD + "merchant 0;merchant 5;merchant 0;merchant 0;merchant 9;merchant 0;"
            + "letter 1 to 2 of 5 at 0;letter 2 to 0 of 5 at 0;letter 4 to 3 of 4 at 0;letter 3 to 0 of 4 at 0;"
            + "letter 4 to 5 of 4 at 1;letter 5 to 0 of 4 at 1;");
        Check.due("the first of like ones", x.pillar(1), 1);
        Check.due("the one of most", x.pillar(2), 4);
        Check.due("the one of most", x.pillar(30), 4);
        for (int n : new int[] {0, -1, 31, LEAST, GREATEST}) Check.due("pillar(" + n + ")", x.pillar(n), -3);
        Check.due("of none", Check.of(HEAD).pillar(1), -1);
        Check.due("of none", Check.of(HEAD + "merchant 1;merchant 1;letter 0 to 1 of 1 at 0;"
            + "letter 1 to 0 of 2 at 0;").pillar(30), -1);
        x = Check.of(HEAD + "merchant 5;merchant 0;merchant 0;letter 0 to 1 of 5 at 0;letter 1 to 2 of 5 at 0;"
            + "time : who = 1 and year < 29;");
        Check.due("within 29", x.pillar(29), -1);
        Check.due("within 30", x.pillar(30), 0);
    }

    private static void helps() {
        Check.says("The least CASH (0 to 9,999) besides, come to a MERCHANT now, by which it isn't BROKEN behind n "
            + "FAIRS (1 to 30). NONE: by none; -2; -3; -5: it is BROKEN.");
        String ten = HEAD + "merchant 0;merchant 0;" + "letter 0 to 1 of 999 at 3;".repeat(10);
        Counted x = Check.of(ten + "letter 0 to 1 of 9 at 4;");
        Check.due("before it", x.saves(0, 3), 0);
        Check.due("of ten", x.saves(0, 4), 9990);
        Check.due("9,999", x.saves(0, 5), 9999);
        x = Check.of(ten + "letter 0 to 1 of 10 at 4;");
        Check.due("10,000", x.saves(0, 5), -1);
        Check.due("of ten", x.saves(0, 4), 9990);
        x = Check.of(ten + "letter 0 to 1 of 9 at 3;time : cash = 999 * 10 + 8;");
        Check.due("time by as much", x.saves(0, 4), 9998);
        x = Check.of(ten + "letter 0 to 1 of 10 at 3;time : short = 1;");
        Check.due("time by as much", x.saves(0, 4), 9999);
        x = Check.of(ten + "letter 0 to 1 of 10 at 3;letter 0 to 1 of 1 at 3;time : short = 1;");
        Check.due("10,000", x.saves(0, 4), -1);
        x = Check.of(HEAD + "merchant 0;merchant 0;letter 0 to 1 of 5 at 0;letter 0 to 1 of 7 at 1;"
            + "letter 0 to 1 of 1 at 19;letter 0 to 1 of 1 at 20;letter 1 to 0 of 6 at 1;");
        int[][] rows = {{1, 5}, {2, 6}, {19, 6}, {20, 7}, {21, 8}, {30, 8}};
        for (int[] row : rows) Check.due("saves(0, " + row[0] + ")", x.saves(0, row[0]), row[1]);
        Check.due("what it owes is void by then", x.saves(1, 30), 0);
        for (int m : new int[] {-1, 2, LEAST, GREATEST}) Check.due("saves(" + m + ", 1)", x.saves(m, 1), -2);
        for (int n : new int[] {0, -1, 31, LEAST, GREATEST}) Check.due("saves(0, " + n + ")", x.saves(0, n), -3);
        x.hold(1, false);
        Check.due("broken", x.saves(0, 1), -5);
        x = Check.of(HEAD + "merchant 3;merchant 0;letter 0 to 1 of 500 at 0;time : cash = 7;");
        Check.due("by cash it has and what comes", x.saves(0, 1), 4);
        x = Check.of(HEAD + "merchant 3;merchant 0;letter 0 to 1 of 500 at 0;"
            + "time : year = 5 or year = 6 and cash = 7 or year = 7 and short = 493;fair 5;");
        Check.due("within 1", x.saves(0, 1), 0);
        Check.due("within 2", x.saves(0, 2), 4);
        Check.due("within 3", x.saves(0, 3), 4);
        Check.due("within 4", x.saves(0, 4), 497);
        // some more is worse: time is given by cash, then by what is short, at one fair and another
        x = Check.of(HEAD + "merchant 0;merchant 0;letter 0 to 1 of 500 at 0;letter 0 to 1 of 300 at 1;"
            + "time : cash = 7 and short = 493 or cash = 7 and short = 793 and year < 3 or cash = 9 and year = 0;");
        Check.due("within 1", x.saves(0, 1), 7);
        Check.due("within 2", x.saves(0, 2), 7);
        Check.due("within 3", x.saves(0, 3), 7);
        Check.due("within 4", x.saves(0, 4), 800);
        x = Check.of(HEAD + "merchant 0;merchant 0;letter 0 to 1 of 500 at 0;"
            + "time : year < 2 and cash > 3 and cash < 6 or year = 2 and cash = 5;");
        Check.due("within 1", x.saves(0, 1), 4);
        Check.due("within 2", x.saves(0, 2), 4);
        Check.due("within 3", x.saves(0, 3), 5);
        Check.due("within 4", x.saves(0, 4), 500);

        Check.says("The MERCHANT, not BROKEN, by whom, had it so much CASH besides now (1 to 999), fewest are BROKEN "
            + "behind n FAIRS (1 to 30), if fewer than so, the first. NONE: by none; -3.");
        x = Check.of(HEAD + "merchant 0;".repeat(6) + "letter 0 to 1 of 999 at 0;letter 2 to 1 of 1 at 0;"
            + "letter 3 to 4 of 2 at 1;letter 4 to 5 of 2 at 1;letter 1 to 0 of 999 at 0;letter 0 to 5 of 999 at 20;");
        // 2 breaks at 0; 3 and 4 at 1; 0 at 20
        int[][] sums = {{1, 1, 2}, {1, 2, 2}, {2, 2, 3}, {2, 20, 3}, {1, 20, 2}, {998, 21, 3}, {999, 21, 3},
            {999, 1, 2}, {1, 30, 2}};
        for (int[] row : sums) Check.due("favour(" + row[0] + ", " + row[1] + ")", x.favour(row[0], row[1]), row[2]);
        x = Check.of(HEAD + "merchant 0;merchant 0;merchant 0;letter 1 to 0 of 999 at 20;letter 2 to 0 of 999 at 20;");
        Check.due("none by then", x.favour(999, 20), -1);
        Check.due("the first of like ones", x.favour(999, 21), 1);
        Check.due("too little", x.favour(998, 30), -1);
        for (int sum : new int[] {0, -1, 1000, LEAST, GREATEST}) {
            Check.due("favour(" + sum + ", 1)", x.favour(sum, 1), -3);
        }
        for (int n : new int[] {0, -1, 31, LEAST, GREATEST}) Check.due("favour(1, " + n + ")", x.favour(1, n), -3);
        x = Check.of(HEAD + "merchant 0;merchant 0;letter 0 to 1 of 5 at 0;time : year < 29;");
        Check.due("within 29", x.favour(5, 29), -1);
        Check.due("within 30", x.favour(5, 30), 0);
        x = Check.of(HEAD + "merchant 0;merchant 0;letter 0 to 1 of 5 at 0;letter 1 to 0 of 3 at 1;");
        x.hold(1, false);
        Check.due("broken ones can't be helped", x.favour(999, 1), -1);
        Check.due("without merchants", Check.of(HEAD).favour(1, 1), -1);
    }

    // ---- promises 29 to 31

    private static final String ROUND = HEAD + "merchant 0;".repeat(6) + "letter 0 to 1 of 9 at 0;"
        + "letter 1 to 2 of 9 at 0;letter 2 to 3 of 9 at 0;letter 3 to 4 of 9 at 0;letter 4 to 5 of 9 at 0;";

    private static void rings() {
        Check.says("How many unlike RINGS (whichever letter is told first) there are of letters DUE here.");
        Counted x = Check.of(ROUND);
        Check.due("none", x.rings(), 0);
        x.write(5, 0, 9, 1);
        Check.due("not due here", x.rings(), 0);
        x.write(5, 0, 9, 0);
        Check.due("one of six", x.rings(), 1);
        x.write(1, 0, 9, 0);
        Check.due("one of two", x.rings(), 2);
        x = Check.of(HEAD + "merchant 0;".repeat(6) + "letter 0 to 1 of 9 at 0;letter 1 to 2 of 9 at 0;"
            + "letter 2 to 3 of 9 at 0;letter 3 to 4 of 9 at 0;letter 4 to 5 of 9 at 0;letter 5 to 1 of 9 at 0;"
            + "letter 1 to 0 of 9 at 0;");
        Check.due("0 6 and 1 to 5, none of seven", x.rings(), 2);
        x = Check.of(HEAD + "merchant 0;merchant 0;merchant 0;letter 0 to 1 of 9 at 1;letter 1 to 2 of 9 at 0;"
            + "letter 2 to 0 of 9 at 0;");
        Check.due("its lowest isn't due here", x.rings(), 0);
        Check.due("its lowest isn't due here", x.ring(0), -1);
        x.write(0, 1, 1, 0);
        Check.due("one that is", x.rings(), 1);
        x.hold(1, false);
        Check.due("paid ones", x.rings(), 0);
        Check.due("without letters", Check.of(HEAD).rings(), 0);
        x = Check.of(HEAD + "merchant 0;".repeat(6) + "letter 0 to 1 of 9 at 0;letter 1 to 2 of 9 at 0;"
            + "letter 2 to 0 of 9 at 0;letter 0 to 3 of 9 at 0;letter 3 to 4 of 9 at 0;letter 4 to 5 of 9 at 0;"
            + "letter 5 to 0 of 9 at 0;");
        Check.due("3 and 4, not 7", x.rings(), 2);
        x.write(3, 0, 9, 0);
        // 3 7, and 0 1 2 with 3 7 by way of 0
        Check.due("merchants may come twice", x.rings(), 4);
        x = Check.of(HEAD + "merchant 0;merchant 0;" + "letter 0 to 1 of 1 at 0;letter 1 to 0 of 1 at 0;".repeat(2));
        Check.due("two by two, four in both orders", x.rings(), 4 + 2);
        x = Check.of(HEAD + "merchant 0;merchant 0;" + "letter 0 to 1 of 1 at 0;letter 1 to 0 of 1 at 0;".repeat(3));
        // pairs 9; fours (3*2)(3*2)/2 = 18; sixes (3*2*1)(3*2*1)/3 = 12
        Check.due("three each", x.rings(), 39);

        Check.says("The RING of these by which most is CANCELLED (so much less as each letter is, times how many "
            + "letters), of like ones the first by letters, one behind the other, told from its lowest one on;"
            + " what 0: that, 1: how many letters, 10 + k: the k-th of them (NONE: not so many). NONE: there is none;"
            + " -2: what (10 to 15).");
        x = Check.of(ROUND);
        for (int what : new int[] {0, 1, 10, 15}) Check.due("none: ring(" + what + ")", x.ring(what), -1);
        for (int what : new int[] {-1, 2, 9, 16, LEAST, GREATEST}) {
            Check.due("none: ring(" + what + ")", x.ring(what), -2);
        }
        x.write(5, 0, 4, 0);
        int[] six = {24, 6, 0, 1, 2, 3, 4, 5};
        for (int i = 0; i < 8; i++) Check.due("ring", x.ring(i < 2 ? i : 8 + i), six[i]);
        x.write(1, 0, 13, 0);
        // 0 6: twice 9 is less than 24
        for (int i = 0; i < 8; i++) Check.due("ring", x.ring(i < 2 ? i : 8 + i), six[i]);
        for (int what : new int[] {-1, 2, 9, 16, LEAST, GREATEST}) Check.due("ring(" + what + ")", x.ring(what), -2);
        x.write(3, 0, 6, 0);
        // 0 1 2 7 is of 24 as well, and 3 comes ahead of 7
        for (int i = 0; i < 8; i++) Check.due("ring", x.ring(i < 2 ? i : 8 + i), six[i]);
        x.write(2, 0, 8, 0);
        // 0 1 8 is of 24 as well, and 2 comes ahead of 8
        for (int i = 0; i < 8; i++) Check.due("ring", x.ring(i < 2 ? i : 8 + i), six[i]);
        x.pay(5);
        x = Check.of(HEAD + "merchant 0;".repeat(3) + "letter 1 to 0 of 6 at 0;letter 0 to 2 of 4 at 0;"
            + "letter 0 to 1 of 6 at 0;letter 2 to 1 of 4 at 0;");
        // 0 1 3 by four, 0 2 by six: both of 12
        int[] three = {12, 3, 0, 1, 3, -1, -1, -1};
        for (int i = 0; i < 8; i++) Check.due("the first by letters", x.ring(i < 2 ? i : 8 + i), three[i]);
        x = Check.of(HEAD + "merchant 0;".repeat(3) + "letter 1 to 0 of 6 at 0;letter 0 to 1 of 6 at 0;"
            + "letter 0 to 2 of 4 at 0;letter 2 to 1 of 4 at 0;");
        int[] two = {12, 2, 0, 1, -1, -1, -1, -1};
        for (int i = 0; i < 8; i++) Check.due("the first by letters", x.ring(i < 2 ? i : 8 + i), two[i]);
        x = Check.of(HEAD + "merchant 0;".repeat(3) + "letter 2 to 1 of 5 at 0;letter 1 to 0 of 9 at 0;"
            + "letter 0 to 2 of 5 at 0;letter 0 to 1 of 9 at 0;");
        // told from the lowest one on: 0 1 2 of 15, and 1 3 of 18
        int[] later = {18, 2, 1, 3, -1, -1, -1, -1};
        for (int i = 0; i < 8; i++) Check.due("the most", x.ring(i < 2 ? i : 8 + i), later[i]);
        x = Check.of(HEAD + "merchant 0;merchant 0;"
            + "letter 0 to 1 of 999 at 0;letter 1 to 0 of 999 at 0;".repeat(3));
        int[] most = {5994, 6, 0, 1, 2, 3, 4, 5};
        for (int i = 0; i < 8; i++) Check.due("the greatest there can be", x.ring(i < 2 ? i : 8 + i), most[i]);
        // a ring that goes on from another one comes behind it: of like sums 0 1 ahead of 0 1 2 3
        x = Check.of(HEAD + "merchant 0;merchant 0;letter 0 to 1 of 8 at 0;letter 1 to 0 of 8 at 0;"
            + "letter 0 to 1 of 4 at 0;letter 1 to 0 of 4 at 0;");
        int[] pair = {16, 2, 0, 1, -1, -1, -1, -1};
        for (int i = 0; i < 8; i++) Check.due("the shorter one", x.ring(i < 2 ? i : 8 + i), pair[i]);

        Check.says("By how much COIN here is less, were a letter not there (below 0: more). -99000002: no such "
            + "letter, it isn't DUE here.");
        x = Check.of(HEAD + "merchant 9;merchant 0;merchant 0;letter 0 to 1 of 5 at 0;letter 1 to 0 of 5 at 0;"
            + "letter 1 to 2 of 4 at 0;letter 2 to 1 of 1 at 1;letter 0 to 2 of 3 at 0;");
        // nets -3 -4 7; without 0: 2 -9 7; without 1: -8 1 7; without 2: -3 0 3; without 4: 0 -4 4
        int[] less = {-2, -1, 4, -99000002, 3};
        for (int l = 0; l < 5; l++) Check.due("hangs(" + l + ")", x.hangs(l), less[l]);
        for (int l : new int[] {-1, 5, 12, LEAST, GREATEST}) Check.due("hangs(" + l + ")", x.hangs(l), -99000002);
        x.pay(0);
        Check.due("paid", x.hangs(0), -99000002);
        x = Check.of(HEAD + "merchant 0;".repeat(3) + "letter 0 to 1 of 5 at 0;letter 1 to 2 of 5 at 0;"
            + "letter 0 to 2 of 2 at 0;letter 2 to 0 of 2 at 0;");
        Check.due("nothing", x.hangs(0), 0);
        Check.due("nothing less than by", x.hangs(1), 0);
    }

    // ---- promises 32 to 34

    private static void odds() {
        Check.says("ODDS at this FAIR: each DUE letter comes late as likely as told, each by itself: how likely, in "
            + "10,000 (cut), something is so, the FAIR held without those that are late.");
        for (int late = 0; late <= 9; late++) {
            Counted x = Check.of(HEAD + "merchant 0;merchant 0;letter 0 to 1 of 1 at 0 late " + late + ";");
            Check.due("calm, late " + late, x.calm(), late * 1000);
            Check.due("danger(0)", x.danger(0), 10000 - late * 1000);
            Check.due("danger(1)", x.danger(1), 0);
        }
        // 0 pays if one of its letters is late at least: 5 owed, 4 had
        String text = HEAD + "merchant 4;merchant 0;";
        String one = "letter 0 to 1 of 1 at 0 late 9;";
        Counted x = Check.of(text + one.repeat(5));
        Check.due("0.9 to the fifth: 0.59049", x.calm(), 10000 - 1);
        Check.due("0.1 to the fifth", x.danger(0), 0);
        x = Check.of(HEAD + "merchant 3;merchant 0;" + one.repeat(4));
        Check.due("0.1 to the fourth", x.danger(0), 1);
        Check.due("less that", x.calm(), 9999);
        x = Check.of(HEAD + "merchant 0;merchant 0;" + one.repeat(12));
        Check.due("0.9 to the twelfth: 0.282429..", x.calm(), 2824);
        Check.due("less that", x.danger(0), 7175);
        x = Check.of(HEAD + "merchant 11;merchant 0;" + one.replace('9', '5').repeat(12));
        Check.due("0.5 to the twelfth", x.danger(0), 2);
        Check.due("less that", x.calm(), 9997);
        x = Check.of(HEAD + "merchant 0;merchant 0;" + one.replace('9', '1').repeat(12));
        Check.due("0.1 to the twelfth", x.calm(), 0);
        Check.due("less that", x.danger(0), 9999);
        x = Check.of(HEAD + "merchant 0;merchant 0;merchant 0;letter 0 to 1 of 1 at 0 late 3;"
            + "letter 1 to 2 of 1 at 0 late 2;letter 0 to 2 of 1 at 1 late 9;");
        // 0 breaks if its own comes (0.7), 1 then too if its comes (0.8); 1 alone if 0's doesn't come: 0.3 * 0.8
        Check.due("calm", x.calm(), 600);
        Check.due("danger(0)", x.danger(0), 7000);
        Check.due("danger(1)", x.danger(1), 8000);
        Check.due("danger(2)", x.danger(2), 0);

        Check.says("ODDS that nobody BREAKS here.");
        Check.due("without letters", Check.of(HEAD).calm(), 10000);
        x = Check.of(HEAD + "merchant 0;merchant 0;letter 0 to 1 of 1 at 1 late 5;");
        Check.due("not due here", x.calm(), 10000);
        x.hold(1, false);
        Check.due("due here", x.calm(), 5000);
        x.hold(1, false);
        Check.due("broken before", x.calm(), 10000);

        Check.says("ODDS that a MERCHANT BREAKS here. -2; -5: it is BROKEN.");
        Check.due("broken", x.danger(0), -5);
        Check.due("not broken", x.danger(1), 0);
        for (int m : new int[] {-1, 2, LEAST, GREATEST}) Check.due("danger(" + m + ")", x.danger(m), -2);

        Check.says("The letter DUE here by which, if it alone is late, most BREAK here, if more than if none is, the "
            + "first. NONE: none.");
        Check.due("without letters", Check.of(HEAD).vital(), -1);
        x = Check.of(HEAD + "merchant 5;merchant 5;merchant 0;merchant 0;merchant 0;merchant 0;"
            + "letter 2 to 5 of 3 at 0;letter 0 to 2 of 3 at 0;letter 3 to 5 of 3 at 0;letter 1 to 3 of 3 at 0;");
        Check.due("1 and 3 break one each: the first", x.vital(), 1);
        x.write(0, 3, 2, 0);
        x.write(3, 4, 2, 0);
        x.write(4, 5, 2, 0);
        // without 3, 3 has 2 of 5 and breaks, then 4 has nothing of 2; without 4 so, too
        Check.due("3 breaks two", x.vital(), 3);
        x = Check.of(HEAD + "merchant 5;merchant 0;merchant 0;letter 0 to 1 of 3 at 1;letter 1 to 2 of 3 at 1;");
        Check.due("not due here", x.vital(), -1);
        x.hold(1, false);
        Check.due("due here", x.vital(), 0);
        x = Check.of(HEAD + "merchant 0;merchant 0;letter 0 to 1 of 3 at 0;letter 0 to 1 of 4 at 0;");
        Check.due("as many as if none is", x.vital(), -1);
    }

    // ---- promises 35 to 37

    private static void change(Counted x, int money, int coins, int n, long most, int... had) {
        Check.due(coins + " of " + money + " over " + n, x.changing(money, coins, n, 0), most);
        for (int k = 0; k < 10; k++) {
            Check.due("had behind " + k, x.changing(money, coins, n, 10 + k), k < had.length ? had[k] : -1);
        }
    }

    private static void moneys() {
        Check.says("CHANGING: so many coins (1 to 999) of a MONEY at this FAIR;"
            + " at this one, and at each of the n FAIRS behind it, all may be changed into another MONEY: coins "
            + "times WORTH, by WORTH of that one, cut. The most coppers they are WORTH at the last one (coins times "
            + "WORTH); of like ones the first by MONEYS had behind each FAIR's changing, one behind the other (none "
            + "is changed twice at a FAIR).");
        Counted x = Check.of("fairs 1 moneys 1;");
        change(x, 0, 1, 0, 10, 0);
        change(x, 0, 999, 9, 9990, 0, 0, 0, 0, 0, 0, 0, 0, 0, 0);
        // WORTH 10, 11, 12, 13: 7 of 0 are 5 of 3, with 5 left over
        x = Check.of("fairs 1 moneys 4;");
        change(x, 0, 7, 0, 70, 0);
        change(x, 3, 7, 0, 91, 3);
        change(x, 3, 10, 1, 130, 0, 0);
        change(x, 1, 10, 2, 110, 0, 0, 0);
        change(x, 1, 1, 2, 11, 1, 1, 1);
        // 6 and 7 at even fairs, 6 and 8 at odd ones: what is cut decides
        x = Check.of("fairs 2 moneys 2;worth : 6 + money * (1 + fair);");
        change(x, 0, 6, 1, 40, 1, 1);
        change(x, 0, 7, 1, 48, 1, 0);
        change(x, 0, 1, 1, 6, 0, 0);
        x.hold(1, false);
        change(x, 1, 3, 1, 24, 0, 0);

        Check.says("Coins are 1,000,000,000 at most.");
        // one money is a hundred times the other one, by turns
        x = Check.of("fairs 2 moneys 2;worth : 1 + 99 * (fair - money) * (fair - money);");
        Check.due("worth", x.worth(0, 0) * 1000 + x.worth(1, 0), 1100);
        x = Check.of("fairs 2 moneys 2;worth : 100 - 99 * (fair - money) * (fair - money);");
        change(x, 0, 9, 4, 90000000000L, 1, 0, 1, 0, 0);
        change(x, 0, 10, 3, 1000000000L, 1, 0, 1, 0);
        change(x, 0, 10, 4, 100000000000L, 1, 0, 1, 0, 0);
        change(x, 0, 11, 4, 100000000000L, 1, 0, 1, 0, 0);
        Check.due("no more than that", x.changing(0, 999, 9, 0), 100000000000L);

        Check.says("CHANGING over n FAIRS (0 to 9), what 0: the most coppers, 10 + k: the MONEY had behind the k-th "
            + "FAIR's changing (0: this one; NONE: not so many). -2: the MONEY, what (10 to 19); -3.");
        x = Check.of("fairs 1 moneys 3;worth : 5;");
        change(x, 2, 1, 0, 5, 0);
        change(x, 2, 1, 9, 5, 0, 0, 0, 0, 0, 0, 0, 0, 0, 0);
        for (int money : new int[] {-1, 3, LEAST, GREATEST}) {
            Check.due("money " + money, x.changing(money, 1, 0, 0), -2);
        }
        for (int what : new int[] {-1, 1, 9, 20, LEAST, GREATEST}) {
            Check.due("what " + what, x.changing(0, 1, 0, what), -2);
        }
        for (int coins : new int[] {0, -1, 1000, LEAST, GREATEST}) {
            Check.due("coins " + coins, x.changing(0, coins, 0, 0), -3);
        }
        for (int n : new int[] {-1, 10, LEAST, GREATEST}) Check.due("n " + n, x.changing(0, 1, n, 0), -3);

        Check.says("INTEREST of a MONEY over n FAIRS (0 to 99): WORTH then, by WORTH now, in 10,000, cut. -2; -3.");
        x = Check.of("fairs 1 moneys 2;worth : 1 + year * 998 * (1 - money) + money * (998 - year * 998);");
        Check.due("from 1 to 999", x.interest(0, 1), 9990000);
        Check.due("from 999 to 1", x.interest(1, 1), 10);
        Check.due("now", x.interest(0, 0), 10000);
        Check.due("in 99", x.interest(0, 99), 9990000);
        x = Check.of("fairs 1 moneys 2;worth : 3 + year;");
        Check.due("cut", x.interest(1, 1), 13333);
        Check.due("cut", x.interest(1, 2), 16666);
        Check.due("in 99", x.interest(0, 99), 340000);
        for (int money : new int[] {-1, 2, LEAST, GREATEST}) Check.due("money " + money, x.interest(money, 0), -2);
        for (int n : new int[] {-1, 100, LEAST, GREATEST}) Check.due("n " + n, x.interest(0, n), -3);

        Check.says("The MONEY with most INTEREST over n FAIRS, as a fraction, the first. -3.");
        x = Check.of("fairs 1 moneys 4;worth : 700 + money + year * 2;");
        Check.due("now all are alike", x.dearest(0), 0);
        Check.due("the least has most", x.dearest(99), 0);
        x = Check.of("fairs 1 moneys 4;worth : 900 - money + year;");
        // 901 by 900, 900 by 899 ..: cut they are 10011 each
        Check.due("cut alike", x.interest(0, 1) - x.interest(3, 1), 0);
        Check.due("as a fraction", x.dearest(1), 3);
        x = Check.of("fairs 1 moneys 2;worth : 110 - (money + 1) * 10 + year * (54 - money * 6);");
        // 154 by 100, 138 by 90; were its worth now any other, 1 would have more
        Check.due("154 by 100", x.dearest(1), 0);
        x = Check.of("fairs 1 moneys 2;worth : 110 - (money + 1) * 10 + year * (54 - money * 5);");
        Check.due("139 by 90", x.dearest(1), 1);
        // 3 by 2, 10 by 8, 27 by 20, 12 by 2
        x = Check.of("fairs 2 moneys 4;worth : (1 - fair) * (2 + money * 6 + money * (money - 1) * 3 - money * "
            + "(money - 1) * (money - 2) * 6) + fair * (3 + money * 7 + money * (money - 1) * 5 - money * (money - "
            + "1) * (money - 2) * 7);");
        int[] now = {2, 8, 20, 2};
        int[] then = {3, 10, 27, 12};
        for (int m = 0; m < 4; m++) Check.due("worth now", x.worth(m, 0), now[m]);
        for (int m = 0; m < 4; m++) Check.due("worth then", x.worth(m, 1), then[m]);
        Check.due("12 by 2", x.dearest(1), 3);
        x.hold(1, false);
        // 2 by 3, 8 by 10, 20 by 27, 2 by 12
        Check.due("8 by 10", x.dearest(1), 1);
        x = Check.of("fairs 1 moneys 3;worth : 1 + (1 - year) * money * 4 + year * (1 + money * (8 + money * 2));");
        // 2 by 1, 12 by 5, 26 by 9
        Check.due("26 by 9", x.dearest(1), 2);
        x = Check.of("fairs 1 moneys 3;worth : 1 + (1 - year) * money * 4 + year * (1 + money * (12 - money * 2));");
        // 2 by 1, 12 by 5, 18 by 9
        Check.due("12 by 5", x.dearest(1), 1);
        x = Check.of("fairs 1 moneys 4;worth : (1 + money) * (1 + year);");
        Check.due("the first of like ones", x.dearest(5), 0);
        x = Check.of("fairs 1 moneys 4;worth : 5 + year * money * (3 - money);");
        Check.due("the first of the greatest", x.dearest(1), 1);
        for (int n : new int[] {-1, 100, LEAST, GREATEST}) Check.due("n " + n, x.dearest(n), -3);
        Check.due("one money", new Counted().dearest(99), 0);
    }

    // ---- promises 38 and 39

    private static void seen(Counted x, int letters, int look, long... cash) {
        Check.tray(x, 2, cash);
        String what = java.util.Arrays.toString(cash);
        Check.due("missing of " + what, x.missing(2), letters);
        Check.due("look of " + what, x.look(2), look);
    }

    private static void missing() {
        Check.says("SEEN in a TRAY (as many numbers as MERCHANTS): CASH of each behind this FAIR, nothing late "
            + "(NONE: not seen): letters DUE here any one of which, not there at all, explains it.");
        Counted x = Check.of(HEAD + "merchant 20;merchant 20;merchant 20;letter 0 to 1 of 1 at 0 late 9;"
            + "letter 0 to 2 of 1 at 0;letter 1 to 2 of 1 at 0;letter 0 to 1 of 1 at 1;letter 2 to 0 of 3 at 0;");
        // all come: 21 20 19; without 0: 22 19 19; without 1: 22 20 18; without 2: 21 21 18; without 4: 18 20 22
        seen(x, 23, 0, -1, -1, -1);
        seen(x, 3, 1, 22, -1, -1);
        seen(x, 18, 0, -1, 20, -1);
        seen(x, 6, 0, -1, -1, 18);
        seen(x, 1, 0, 22, 19, 19);
        seen(x, 2, 0, 22, 20, 18);
        seen(x, 4, 0, 21, 21, 18);
        seen(x, 16, 0, 18, 20, 22);
        seen(x, 0, -1, 21, 20, 19);
        seen(x, 0, -1, -2, -1, -1);
        seen(x, 0, -1, 22 + (1L << 32), -1, -1);
        Check.says("SEEN: letters, as bits. -2: the TRAY; -6; -4: not as many numbers as MERCHANTS.");
        for (int n = 0; n <= 6; n++) {
            x.numbers(2, 1, n);
            for (int i = 0; i < n; i++) x.put(2, i, -1);
            Check.due("missing of " + n, x.missing(2), n == 3 ? 23 : -4);
            Check.due("look of " + n, x.look(2), n == 3 ? 0 : -4);
        }
        for (int tray : new int[] {-1, 4, LEAST, GREATEST}) {
            Check.due("tray " + tray, x.missing(tray), -2);
            Check.due("tray " + tray, x.look(tray), -2);
        }
        Check.due("missing", x.missing(3), -6);
        Check.due("missing", x.look(3), -6);
        x.hold(1, false);
        seen(x, 8, 0, -1, -1, -1);
        x.hold(1, false);
        seen(x, 0, -1, -1, -1, -1);

        Check.says("The MERCHANT whose CASH behind this FAIR tells most: the greatest number of these letters that "
            + "make one and the same of it is least, the first. NONE: there are none; else as missing().");
        x = Check.of(HEAD + "merchant 20;merchant 20;merchant 20;letter 0 to 1 of 1 at 0;letter 0 to 1 of 2 at 0;"
            + "letter 0 to 1 of 3 at 0;letter 2 to 1 of 1 at 0;letter 2 to 1 of 1 at 0;");
        // of 0: 15 16 17 14 14; of 1: 27 26 25 27 27; of 2: 18 18 18 19 19
        seen(x, 31, 0, -1, -1, -1);
        seen(x, 7, 0, -1, -1, 18);
        seen(x, 25, 0, -1, 27, -1);
        seen(x, 24, 0, 14, -1, -1);
        x = Check.of(HEAD + "merchant 20;merchant 20;merchant 20;letter 0 to 1 of 1 at 0;letter 0 to 1 of 1 at 0;"
            + "letter 0 to 2 of 1 at 0;letter 1 to 2 of 1 at 0;");
        // of 0: 18 18 18 17; of 1: 20 20 21 22; of 2: 22 22 21 21
        seen(x, 15, 1, -1, -1, -1);
        seen(x, 12, 0, -1, -1, 21);
        seen(x, 7, 1, 18, -1, -1);
        x = Check.of(HEAD + "merchant 20;merchant 20;" + "letter 0 to 1 of 1 at 0;".repeat(12));
        Check.tray(x, 2, -1, -1);
        Check.due("all twelve", x.missing(2), 4095);
        Check.due("all make the same of each", x.look(2), 0);
        x = new Counted();
        x.numbers(2, 0, 0);
        Check.due("without merchants", x.missing(2), 0);
        Check.due("without merchants", x.look(2), -1);
    }

    public static void main(String[] args) {
        due();
        ahead();
        chains();
        helps();
        rings();
        odds();
        moneys();
        missing();
        Check.close("AheadBoundsTest");
    }
}
