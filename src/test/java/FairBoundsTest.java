/** The second part of the document's Terms, fairs and deeds, and promises 5 to 17: each bound, sentence by sentence. */
public final class FairBoundsTest {
    private static final String HEAD = "fairs 1 moneys 1;";

    private static int next(int x) {
        return (int) (1103515245L * x + 12345L);
    }

    private static int draw(int x) {
        return (int) ((x & 0xffffffffL) / 65536);
    }

    // ---- what the laws know

    private static void counting() {
        Check.says("FAIRS are counted on from 0: FAIR f is (in the laws) fair: f modulo how many a year has, year: f "
            + "by that, cut.");
        Counted x = Check.of("fairs 6 moneys 1;worth : fair * 100 + year + 1;");
        int[] worths = {1, 101, 201, 301, 401, 501, 2, 102};
        for (int n = 0; n < worths.length; n++) Check.due("worth(0, " + n + ")", x.worth(0, n), worths[n]);
        x = Check.of("fairs 6 moneys 1;fair 999;worth : fair * 100 + year;");
        Check.due("fair 999", x.worth(0, 0), 466);
        Check.due("fair 1001", x.worth(0, 2), 666);
        Check.due("fair 1002", x.worth(0, 3), 167);
        x.hold(3, false);
        Check.due("fair 1002", x.worth(0, 0), 167);
        x = Check.of("fairs 1 moneys 1;fair 7;worth : fair * 100 + year;");
        Check.due("one a year", x.worth(0, 1), 8);
        for (int fair = 5; fair <= 7; fair++) {
            String text = "fairs 6 moneys 1;merchant 0;merchant 0;letter 0 to 1 of 1 at 0;fair " + fair + ";time : ";
            Check.due("time at " + fair, Check.of(text + "fair = 5 and year = 0;").hold(1, false), fair == 5 ? 0 : 1);
            Check.due("time at " + fair, Check.of(text + "fair = 0 and year = 1;").hold(1, false), fair == 6 ? 0 : 1);
        }

        Check.says("so many coppers a coin as the law worth tells, 1 at least, 999 at most (without one: 10 and its "
            + "number): money: its number.");
        x = Check.of("fairs 1 moneys 4;");
        for (int m = 0; m < 4; m++) Check.due("without a law", x.worth(m, 0), 10 + m);
        x = Check.of("fairs 1 moneys 4;worth : money * 500 - 500;");
        int[] cut = {1, 1, 500, 999};
        for (int m = 0; m < 4; m++) Check.due("worth of " + m, x.worth(m, 0), cut[m]);
        x = Check.of("fairs 1 moneys 4;worth : 997 + money;");
        for (int m = 0; m < 4; m++) Check.due("worth of " + m, x.worth(m, 0), m < 2 ? 997 + m : 999);
        x = Check.of("fairs 1 moneys 4;worth : money;");
        for (int m = 0; m < 4; m++) Check.due("worth of " + m, x.worth(m, 0), m < 1 ? 1 : m);
        x = Check.of("fairs 1 moneys 4;worth : money - 1;");
        for (int m = 0; m < 4; m++) Check.due("worth of " + m, x.worth(m, 0), m < 2 ? 1 : m - 1);
    }

    /** By the law worth: 500, if the sum is kept at a million; by the law time: it is that, and no more than that. */
    private static void most(String sum, int is) {
        Counted x = Check.of(HEAD + "worth : (" + sum + ") - 999 * 999 - 999 - 500;");
        Check.due("worth by " + sum, x.worth(0, 0), is - 998001 - 1499);
        x = Check.of(HEAD + "merchant 0;merchant 0;letter 0 to 1 of 1 at 0;time : " + sum
            + " = 999 * 999 + 999 + 500 + "
            + (is - 999500) + ";");
        Check.due("time by " + sum, x.hold(1, false), 0);
        x = Check.of(HEAD + "merchant 0;merchant 0;letter 0 to 1 of 1 at 0;time : " + sum
            + " > 999 * 999 + 999 + 500 + "
            + (is - 999500) + ";");
        Check.due("time above " + sum, x.hold(1, false), 1);
    }

    private static void least(String sum, int is) {
        Counted x = Check.of(HEAD + "worth : (" + sum + ") + 999 * 999 + 999 + 999 + 501;");
        Check.due("worth by " + sum, x.worth(0, 0), is + 998001 + 2499);
        x = Check.of(HEAD + "merchant 0;merchant 0;letter 0 to 1 of 1 at 0;time : " + sum
            + " < 0 - 999 * 999 - 999 - 500 - "
            + (-is - 999501) + ";");
        Check.due("time by " + sum, x.hold(1, false), 0);
        x = Check.of(HEAD + "merchant 0;merchant 0;letter 0 to 1 of 1 at 0;time : " + sum
            + " < 0 - 999 * 999 - 999 - 500 - "
            + (-is - 999500) + ";");
        Check.due("time below " + sum, x.hold(1, false), 1);
    }

    private static void kept() {
        Check.says("In both laws each + - * is kept from -1,000,000 to 1,000,000.");
        most("999*999+999+999", 999999);
        most("999*999+999+999+1", 1000000);
        most("999*999+999+999+2", 1000000);
        most("999*999+999*999", 1000000);
        most("999*999+999+999+999-1", 999999);
        most("999*999+999+999-(0-1)", 1000000);
        most("999*999+999+999-(0-2)", 1000000);
        most("(999+1)*(999+1)", 1000000);
        most("(999+1)*(999+1)-1", 999999);
        most("(999+2)*(999+1)", 1000000);
        most("(999+2)*(999+1)-1", 999999);
        most("(0-999-1)*(0-999-2)", 1000000);
        most("999*999*999*(999*999*999)", 1000000);
        most("(0-999*999*999)*(0-999*999*999)", 1000000);
        least("0-999*999-999-999", -999999);
        least("0-999*999-999-999-1", -1000000);
        least("0-999*999-999-999-2", -1000000);
        least("0-999*999-999-999+(0-2)", -1000000);
        least("0-999*999-999-999-999+1", -999999);
        least("(0-999-1)*(999+1)", -1000000);
        least("(0-999-1)*(999+2)", -1000000);
        least("(0-999-1)*(999+2)+1", -999999);
        least("(0-999*999*999)*(999*999*999)", -1000000);
    }

    // ---- a fair

    private static void shorts() {
        Check.says("(1) DUE are those whose FAIR this is.");
        Counted x = Check.of(HEAD + "merchant 9;merchant 0;letter 0 to 1 of 1 at 0;letter 0 to 1 of 2 at 1;"
            + "letter 0 to 1 of 4 at 2;");
        x.hold(1, false);
        Check.cash(x, 8, 1);
        Check.due("owed", x.count(5), 6);
        x.hold(1, false);
        Check.cash(x, 6, 3);
        x.hold(1, false);
        Check.cash(x, 2, 7);

        Check.says("A FAIR, of letters that aren't PAID or VOID:");
        x = Check.of(HEAD + "merchant 9;merchant 0;merchant 0;letter 0 to 1 of 4 at 0;letter 0 to 1 of 5 at 0;"
            + "letter 2 to 0 of 1 at 0;letter 0 to 2 of 9 at 1;letter 2 to 1 of 7 at 1;");
        x.pay(0);
        Check.due("2 breaks", x.hold(1, false), 1);
        Check.cash(x, 0, 9, 0);
        // of the letters by and to 2 none is paid, nor is letter 0 once more
        Check.due("nobody", x.hold(1, false), 0);
        Check.cash(x, 0, 9, 0);
        Check.due("owed", x.count(5), 0);

        Check.says("(2) NET of a MERCHANT that isn't BROKEN: all it is owed by DUE ones, less all it owes by DUE "
            + "ones.");
        x = Check.of(HEAD + "merchant 9;merchant 9;merchant 9;letter 0 to 1 of 4 at 0;letter 2 to 0 of 2 at 0;"
            + "letter 0 to 2 of 1 at 0;letter 1 to 0 of 3 at 1;letter 0 to 1 of 6 at 20;");
        int[][] nets = {{-3, 4, -1}, {3, -3, 0}, {0, 0, 0}, {-6, 6, 0}};
        int[] ins = {0, 1, 2, 20};
        for (int i = 0; i < 4; i++) {
            for (int m = 0; m < 3; m++) Check.due("net(" + m + ", " + ins[i] + ")", x.net(m, ins[i]), nets[i][m]);
        }
        x.hold(1, false);
        Check.cash(x, 6, 13, 8);

        Check.says("All whose CASH and NET together are below 0 are SHORT, at once");
        for (int cash = 0; cash <= 3; cash++) {
            for (int owed = 1; owed <= 3; owed++) {
                for (int owes = 1; owes <= 7; owes++) {
                    x = Check.of(HEAD + "merchant " + cash + ";merchant 50;letter 1 to 0 of " + owed
                        + " at 0;letter 0 to 1 of "
                        + owes + " at 0;");
                    boolean breaks = cash + owed - owes < 0;
                    Check.due(cash + " and " + owed + " less " + owes, x.hold(1, false), breaks ? 1 : 0);
                    Check.cash(x, breaks ? cash : cash + owed - owes);
                }
            }
        }
        // were 0 to break first, 1 would owe nothing any more
        x = Check.of(HEAD + "merchant 0;merchant 0;merchant 0;letter 0 to 2 of 9 at 0;letter 1 to 0 of 5 at 0;");
        Check.due("both", x.hold(1, false), 2);
        Check.due("both", x.count(3), 3);
        // 1 is short only behind 0
        x = Check.of(HEAD + "merchant 0;merchant 0;merchant 0;letter 0 to 1 of 5 at 0;letter 1 to 2 of 5 at 0;"
            + "time : who = 0;");
        Check.due("1 breaks", x.hold(1, false), 1);
        Check.due("1 breaks", x.count(3), 2);
        Check.due("0's letter to it is void", x.letter(0, 4), 2);

        Check.says("is given TIME, if the law time holds (without one: never): all DUE letters by which it owes are "
            + "DUE a FAIR later (and no more now)");
        String text = HEAD + "merchant 1;merchant 9;letter 0 to 1 of 5 at 0;letter 0 to 1 of 6 at 0;"
            + "letter 1 to 0 of 3 at 0;letter 0 to 1 of 1 at 1;letter 0 to 1 of 1 at 2;";
        Check.due("without", Check.of(text).hold(1, false), 1);
        Check.due("it doesn't hold", Check.of(text + "time : 1 = 2;").hold(1, false), 1);
        x = Check.of(text + "time : 1 = 1;");
        Check.due("it holds", x.hold(1, false), 0);
        int[] in = {0, 0, -1, 0, 1};
        for (int l = 0; l < 5; l++) Check.due("letter " + l, x.letter(l, 3), in[l]);
        Check.cash(x, 4, 6);

        Check.says("else it BREAKS: all letters by it and to it, DUE or not, are VOID.");
        x = Check.of(HEAD + "merchant 4;merchant 9;merchant 9;letter 0 to 1 of 4 at 0;letter 0 to 1 of 1 at 1;"
            + "letter 1 to 0 of 1 at 2;letter 0 to 2 of 3 at 20;letter 2 to 0 of 3 at 20;letter 1 to 2 of 3 at 1;"
            + "letter 2 to 1 of 3 at 20;");
        Check.due("nobody", x.hold(1, false), 0);
        Check.due("0", x.hold(1, false), 1);
        int[] states = {1, 2, 2, 2, 2, 1, 0};
        for (int l = 0; l < 7; l++) Check.due("letter " + l, x.letter(l, 4), states[l]);
        Check.due("its cash stays", x.merchant(0, 0), 0);

        Check.says("who: its number, cash: CASH, short: by how much it is below 0, as all was found SHORT.");
        text = HEAD + "merchant 3;merchant 2;merchant 4;letter 0 to 1 of 9 at 0;letter 1 to 0 of 1 at 0;"
            + "letter 2 to 1 of 7 at 0;";
        // 0: 3 - 8, short by 5; 1: 2 + 15; 2: 4 - 7, short by 3, with 4, though 0 broke ahead of it
        Check.due("0 has time", Check.of(text + "time : who=0 and cash=3 and short=5;").hold(1, false), 1);
        Check.due("2 has time", Check.of(text + "time : who=2 and cash=4 and short=3;").hold(1, false), 1);
        Check.due("both have", Check.of(text + "time : cash=who*2 - 0*short or who=0 and short=5;").hold(1, false), 0);
        // 0 breaks; then 1 is short by 4: it was found short then
        x = Check.of(HEAD + "merchant 0;merchant 2;merchant 0;letter 0 to 1 of 5 at 0;letter 1 to 2 of 6 at 0;"
            + "time : short=4;");
        Check.due("0 breaks", x.hold(1, false), 1);
        Check.due("1 has time", x.letter(1, 3), 0);

        Check.says("Then (2) once more, till none is SHORT.");
        x = Check.of(HEAD + "merchant 0;".repeat(6) + "letter 4 to 5 of 5 at 0;letter 3 to 4 of 5 at 0;"
            + "letter 2 to 3 of 5 at 0;letter 1 to 2 of 5 at 0;letter 0 to 1 of 5 at 0;");
        Check.due("five, one behind the other", x.hold(1, false), 5);
        Check.due("five", x.count(3), 31);
        x = Check.of(HEAD + "merchant 0;".repeat(6) + "letter 4 to 5 of 5 at 0;letter 3 to 4 of 5 at 0;"
            + "letter 2 to 3 of 5 at 0;letter 1 to 2 of 5 at 0;letter 0 to 1 of 5 at 0;time : 1 = 1;");
        Check.due("time for five", x.hold(1, false), 0);
        Check.due("all later", x.due(0), 31);
        x = Check.of(HEAD + "merchant 1;merchant 0;merchant 0;letter 0 to 1 of 1 at 0;letter 1 to 2 of 1 at 0;");
        Check.due("none", x.hold(1, false), 0);

        Check.says("(3) All pay: CASH is more by NET, all DUE letters are PAID. The next FAIR comes.");
        Check.cash(x, 0, 0, 1);
        Check.due("paid", x.letter(0, 4) * 10 + x.letter(1, 4), 11);
        Check.due("the next", x.count(6), 1);
    }

    // ---- mules

    private static final String LATE = HEAD + "merchant 99;merchant 99;letter 0 to 1 of 1 at 0 late ";

    private static void lates() {
        Check.says("it is late, if DRAW modulo 10 is below how likely that is.");
        Check.says("whether it is late (if late is 0, nothing is drawn): it is DUE a FAIR later then.");
        for (int likely = 0; likely <= 9; likely++) {
            for (int drawn = 0; drawn <= 9; drawn++) {
                for (int sign = 0; sign < 2; sign++) {
                    int seed = 0;
                    while (draw(next(seed)) % 10 != drawn || next(seed) < 0 != (sign == 1)) seed++;
                    Counted x = Check.of(LATE + likely + ";");
                    x.seed(seed);
                    x.hold(1, true);
                    Check.due("late " + likely + ", drawn " + drawn + " of " + next(seed), x.letter(0, 4),
                        drawn < likely ? 0 : 1);
                    Check.due("it is here", x.letter(0, 3), drawn < likely ? 0 : -1);
                    Check.due("x", x.seed(0), likely == 0 ? seed : next(seed));
                }
            }
        }

        Check.says("x (an int, 0 at first; told by a call) becomes 1103515245 x + 12345, a DRAW is x >>> 16;");
        Check.due("at first", new Counted().seed(0), 0);
        for (int seed : new int[] {0, 1, -1, 2, -2, Integer.MAX_VALUE, Integer.MIN_VALUE, 65535, 65536, -65536}) {
            Counted x = Check.of(LATE + "1;");
            x.seed(seed);
            x.hold(1, true);
            Check.due("x of " + seed, x.seed(seed), next(seed));
            Check.due("late by " + seed, x.letter(0, 4), draw(next(seed)) % 10 < 1 ? 0 : 1);
        }

        Check.says("it is drawn of each letter whose FAIR this is, that isn't PAID or VOID, by numbers");
        // 0 is paid, 1 void, 2 not due, 3 due and never late: 4 and 5 are drawn of
        String text = HEAD + "merchant 50;merchant 50;merchant 0;letter 0 to 1 of 1 at 1 late 5;"
            + "letter 0 to 2 of 1 at 1 late 5;letter 0 to 1 of 1 at 2 late 5;letter 0 to 1 of 1 at 1;"
            + "letter 0 to 1 of 1 at 1 late 5;letter 0 to 1 of 1 at 1 late 5;letter 2 to 0 of 1 at 0;";
        for (int seed = 0; seed < 40; seed++) {
            Counted x = Check.of(text);
            x.pay(0);
            Check.due("2 breaks", x.hold(1, false), 1);
            x.seed(seed);
            x.hold(1, true);
            int one = next(seed);
            int two = next(one);
            Check.due("letter 4", x.letter(4, 4), draw(one) % 10 < 5 ? 0 : 1);
            Check.due("letter 5", x.letter(5, 4), draw(two) % 10 < 5 ? 0 : 1);
            Check.due("letter 3", x.letter(3, 4), 1);
            Check.due("letter 2", x.letter(2, 3), 0);
            Check.due("two draws", x.seed(0), two);
        }
        // late again and again
        for (int seed = 0; seed < 40; seed++) {
            Counted x = Check.of(LATE + "9;");
            x.seed(seed);
            int v = seed;
            for (int fair = 1; fair <= 20; fair++) {
                boolean here = x.letter(0, 4) == 0;
                x.hold(1, true);
                if (here) v = next(v);
                Check.due("owed behind " + fair, x.letter(0, 4), here && draw(v) % 10 < 9 ? 0 : 1);
                Check.due("in", x.letter(0, 3), here && draw(v) % 10 < 9 ? 0 : -1);
            }
            Check.due("x", x.seed(0), v);
        }
        // the draws come ahead of (1): what is late can't break anybody now
        for (int seed = 0; seed < 20; seed++) {
            Counted x = Check.of(HEAD + "merchant 0;merchant 0;letter 0 to 1 of 1 at 0 late 5;");
            x.seed(seed);
            Check.due("breaks", x.hold(1, true), draw(next(seed)) % 10 < 5 ? 0 : 1);
        }
    }

    // ---- promises 5 to 7

    private static void asked() {
        Check.says("Of a MERCHANT, what 0: CASH, 1: 1 if BROKEN, else 0, 2: all it owes by letters that aren't PAID "
            + "or VOID, 3: all it is owed by such. -2.");
        Counted x = Check.of(HEAD + "merchant 20;merchant 0;merchant 1;letter 0 to 2 of 1 at 0;"
            + "letter 0 to 2 of 2 at 20;letter 2 to 0 of 999 at 9;letter 0 to 1 of 8 at 5;letter 1 to 0 of 3 at 0;"
            + "letter 2 to 0 of 999 at 10;");
        int[][] ahead = {{20, 0, 11, 2001}, {0, 0, 3, 8}, {1, 0, 1998, 3}};
        int[][] behind = {{19, 0, 2, 1998}, {0, 1, 0, 0}, {2, 0, 1998, 2}};
        merchants(x, ahead);
        Check.due("1 breaks", x.hold(1, false), 1);
        merchants(x, behind);
        for (int what : new int[] {-1, 4, Integer.MIN_VALUE, Integer.MAX_VALUE}) {
            Check.due("what", x.merchant(0, what), -2);
        }
        for (int m : new int[] {-1, 3, Integer.MIN_VALUE, Integer.MAX_VALUE}) {
            Check.due("merchant", x.merchant(m, 0), -2);
        }

        Check.says("Of a letter, what 0: who owes, 1: whom, 2: how much (0: PAID, VOID), 3: in how many FAIRS it is "
            + "DUE (0: here; NONE: it is PAID, VOID), 4: 0 owed, 1 PAID, 2 VOID, 5: how likely late. -2.");
        x = Check.of(HEAD + "merchant 999;merchant 0;merchant 0;letter 0 to 1 of 999 at 0 late 9;"
            + "letter 2 to 0 of 1 at 0 late 1;letter 1 to 0 of 5 at 20;letter 0 to 1 of 3 at 1 late 2;");
        int[][] first = {{0, 1, 999, 0, 0, 9}, {2, 0, 1, 0, 0, 1}, {1, 0, 5, 20, 0, 0}, {0, 1, 3, 1, 0, 2}};
        int[][] then = {{0, 1, 0, -1, 1, 9}, {2, 0, 0, -1, 2, 1}, {1, 0, 5, 19, 0, 0}, {0, 1, 3, 0, 0, 2}};
        letters(x, first);
        Check.due("2 breaks", x.hold(1, false), 1);
        letters(x, then);
        for (int what : new int[] {-1, 6, Integer.MIN_VALUE, Integer.MAX_VALUE}) {
            Check.due("what", x.letter(0, what), -2);
        }
        for (int l : new int[] {-1, 4, Integer.MIN_VALUE, Integer.MAX_VALUE}) Check.due("letter", x.letter(l, 0), -2);

        Check.says("What a MONEY is WORTH in n FAIRS (0 to 999). -2; -3.");
        x = Check.of("fairs 2 moneys 2;fair 500;worth : year + money * 500;");
        Check.due("now", x.worth(0, 0), 250);
        Check.due("in 999", x.worth(0, 999), 749);
        Check.due("in 998", x.worth(0, 998), 749);
        Check.due("in 997", x.worth(0, 997), 748);
        Check.due("in -1", x.worth(0, -1), -3);
        Check.due("in 1000", x.worth(0, 1000), -3);
        Check.due("money 1", x.worth(1, 0), 750);
        Check.due("money 2", x.worth(2, 0), -2);
        Check.due("money -1", x.worth(-1, 0), -2);
    }

    private static void merchants(Counted x, int[][] told) {
        for (int m = 0; m < told.length; m++) {
            for (int what = 0; what < 4; what++) {
                Check.due("merchant(" + m + ", " + what + ")", x.merchant(m, what), told[m][what]);
            }
        }
    }

    private static void letters(Counted x, int[][] told) {
        for (int l = 0; l < told.length; l++) {
            for (int what = 0; what < 6; what++) {
                Check.due("letter(" + l + ", " + what + ")", x.letter(l, what), told[l][what]);
            }
        }
    }

    // ---- promises 8 to 13

    private static final String THREE = HEAD + "merchant 50;merchant 10;merchant 0;letter 0 to 1 of 20 at 0;"
        + "letter 1 to 2 of 10 at 3;letter 2 to 0 of 5 at 1;";

    private static void deeds() {
        Check.says("x is this: what it was.");
        Counted x = new Counted();
        Check.due("seed", x.seed(Integer.MIN_VALUE), 0);
        Check.due("seed", x.seed(Integer.MAX_VALUE), Integer.MIN_VALUE);
        Check.due("seed", x.seed(-1), Integer.MAX_VALUE);
        Check.due("seed", x.seed(0), -1);

        Check.says("A letter is WRITTEN: its number. -2: a MERCHANT, both one;"
            + " -3: how much (1 to 999), in how many FAIRS (0 to 20); -4: there are 12; -5: one is BROKEN.");
        x = Check.of(HEAD + "merchant 999;merchant 1;fair 5;");
        Check.due("the first", x.write(0, 1, 1, 0), 0);
        Check.due("the second", x.write(1, 0, 999, 20), 1);
        letters(x, new int[][] {{0, 1, 1, 0, 0, 0}, {1, 0, 999, 20, 0, 0}});
        for (int l = 2; l < 12; l++) Check.due("one more", x.write(0, 1, l, l), l);
        Check.due("the 12th", x.letter(11, 2), 11);
        Check.due("a 13th", x.write(0, 1, 1, 0), -4);
        Check.due("there are 12", x.count(4), 12);
        x.pay(0);
        Check.due("paid ones are there too", x.write(0, 1, 1, 0), -4);
        for (int[] bad : new int[][] {{-1, 0, 1, 0}, {0, -1, 1, 0}, {2, 0, 1, 0}, {0, 2, 1, 0}, {0, 0, 1, 0},
            {1, 1, 1, 0}}) {
            Check.due("merchants", x.write(bad[0], bad[1], bad[2], bad[3]), -2);
        }
        for (int[] bad : new int[][] {{0, 0}, {1000, 0}, {-1, 0}, {1, -1}, {1, 21}, {Integer.MAX_VALUE, 0},
            {1, Integer.MIN_VALUE}}) {
            Check.due("how much, in", x.write(0, 1, bad[0], bad[1]), -3);
        }

        Check.says("To WRITE a letter: DUE in so many FAIRS (0: at this one).");
        x = Check.of(HEAD + "merchant 99;merchant 1;fair 5;");
        x.write(0, 1, 10, 0);
        x.write(0, 1, 20, 1);
        x.write(0, 1, 40, 20);
        Check.due("due(0)", x.due(0), 1);
        Check.due("due(1)", x.due(1), 2);
        Check.due("due(20)", x.due(20), 4);
        x.hold(1, false);
        Check.cash(x, 89, 11);
        x.hold(19, false);
        Check.cash(x, 69, 31);
        x.hold(1, false);
        Check.cash(x, 29, 71);

        Check.says("To PAY a letter, ahead of its FAIR too: CASH from who owes to who is owed.");
        x = Check.of(HEAD + "merchant 9;merchant 1;letter 0 to 1 of 4 at 20;letter 0 to 1 of 5 at 0;");
        Check.due("pay(0)", x.pay(0), 4);
        Check.due("pay(1)", x.pay(1), 5);
        Check.cash(x, 0, 10);
        Check.due("nobody owes anything", x.hold(20, false), 0);
        Check.cash(x, 0, 10);

        Check.says("To LEND: CASH from one to another one, neither BROKEN.");
        x = Check.of(HEAD + "merchant 9;merchant 1;merchant 5;letter 1 to 0 of 2 at 0;");
        Check.due("from one that isn't", x.lend(1, 2, 1), 0);
        Check.due("1 breaks", x.hold(1, false), 1);
        Check.due("to a broken one", x.lend(0, 1, 1), -12);
        Check.due("from a broken one", x.lend(1, 0, 1), -12);
        Check.due("of two others", x.lend(0, 2, 9), 0);
        Check.cash(x, 0, 0, 15);

        Check.says("A letter is PAID: how much it was of. -11 to -13.");
        x = Check.of(THREE);
        Check.due("no letter", x.pay(3), -11);
        Check.due("no letter", x.pay(-1), -11);
        Check.due("2 has none", x.pay(2), -13);
        Check.due("1 has just as much", x.pay(1), 10);
        Check.cash(x, 50, 0, 10);
        Check.due("paid", x.pay(1), -12);
        Check.due("2 has now", x.pay(2), 5);
        Check.cash(x, 55, 0, 5);
        x = Check.of(HEAD + "merchant 4;merchant 0;letter 0 to 1 of 5 at 9;");
        Check.due("one too little", x.pay(0), -13);
        Check.due("not broken", x.count(3), 0);

        Check.says("n coppers (1 to 999) are LENT: CASH of who lent. -11 (n, too) to -13.");
        x = Check.of(HEAD + "merchant 999;merchant 3;merchant 0;");
        Check.due("one", x.lend(0, 1, 1), 998);
        Check.due("999", x.lend(0, 1, 999), -13);
        Check.due("998", x.lend(0, 1, 998), 0);
        Check.due("none left", x.lend(0, 1, 1), -13);
        Check.due("999", x.lend(1, 2, 999), 3);
        Check.cash(x, 0, 3, 999);
        for (int n : new int[] {0, -1, 1000, Integer.MIN_VALUE, Integer.MAX_VALUE}) {
            Check.due("n " + n, x.lend(2, 0, n), -11);
        }
        for (int m : new int[] {-1, 3, Integer.MIN_VALUE, Integer.MAX_VALUE}) {
            Check.due("to " + m, x.lend(2, m, 1), -11);
            Check.due("from " + m, x.lend(m, 2, 1), -11);
        }
        Check.due("both one", x.lend(2, 2, 1), -11);

        Check.says("n FAIRS (1 to 20) are held, with MULES, or without: how many BROKE. -3.");
        x = Check.of(HEAD + "merchant 0;".repeat(6) + "letter 0 to 5 of 1 at 0;letter 1 to 5 of 1 at 1;"
            + "letter 2 to 5 of 1 at 19;letter 3 to 5 of 1 at 20;");
        Check.due("hold 0", x.hold(0, false), -3);
        Check.due("hold 21", x.hold(21, true), -3);
        Check.due("hold -1", x.hold(-1, false), -3);
        Check.due("hold 20", x.hold(20, false), 3);
        Check.due("fair", x.count(6), 20);
        Check.due("hold 1: those broken before aren't told", x.hold(1, true), 1);
        Check.due("hold 1", x.hold(1, true), 0);
        Check.due("fair", x.count(6), 22);
    }

    private static final String ROUND = HEAD + "merchant 0;".repeat(6) + "letter 0 to 1 of 2 at 0;"
        + "letter 1 to 2 of 3 at 20;letter 2 to 3 of 4 at 1;letter 3 to 4 of 5 at 2;letter 4 to 5 of 6 at 3;"
        + "letter 5 to 0 of 7 at 4;letter 1 to 0 of 2 at 0;letter 0 to 1 of 1 at 0;letter 1 to 0 of 1 at 0;";

    private static void rings() {
        Check.says("A RING: letters (2 to 6, unlike; MERCHANTS may come twice), each owed to who owes the next one, "
            + "the last one to who owes the first");
        Counted x = Check.of(ROUND);
        ring(x, -11);
        ring(x, -11, 0);
        ring(x, -12, 0, 1);
        ring(x, -12, 1, 0);
        ring(x, -12, 0, 1, 2, 3, 4);
        ring(x, -12, 1, 2, 3, 4, 5);
        ring(x, -12, 0, 6, 0, 6);
        ring(x, -12, 0, 0);
        ring(x, -12, 0, 6, 7);
        ring(x, -11, 0, 1, 2, 3, 4, 5, 6);
        ring(x, -11, 0, 6, 7, 8, 0, 6, 7, 8);
        ring(x, -11, 0, 9);
        ring(x, -11, 0, -1);
        Check.due("nothing is done", x.count(8), 0);
        Check.says("to CANCEL it: each is of so much less as the least of them is of;");
        ring(x, 2, 0, 1, 2, 3, 4, 5);
        int[] left = {0, 1, 2, 3, 4, 5, 2, 1, 1};
        for (int l = 0; l < 9; l++) Check.due("letter " + l, x.letter(l, 2), left[l]);
        Check.due("of 0 is paid", x.letter(0, 4), 1);
        Check.due("of 1 is not", x.letter(1, 4), 0);
        Check.due("due when it was", x.letter(1, 3), 20);
        Check.due("no cash moves", x.count(7), 0);
        ring(x, -12, 0, 6);
        x = Check.of(ROUND);
        ring(x, 1, 8, 0, 6, 7);
        Check.due("paid", x.count(5), 127);
        ring(x, 1, 6, 0);
        x = Check.of(ROUND);
        ring(x, 2, 5, 0, 1, 2, 3, 4);
        x = Check.of(HEAD + "merchant 0;".repeat(2) + "letter 0 to 1 of 1 at 0;letter 1 to 0 of 1 at 0;".repeat(3));
        ring(x, 1, 0, 1, 2, 3, 4, 5);
        Check.due("all paid", x.count(5), 0);

        Check.says("those of 0 then are PAID.");
        Check.due("paid", x.letter(5, 4), 1);
        Check.due("how much", x.letter(5, 2), 0);
        Check.due("in", x.letter(5, 3), -1);
    }

    private static void ring(Counted x, int due, long... letters) {
        Check.tray(x, 0, letters);
        Check.due("cancel() of " + java.util.Arrays.toString(letters), x.cancel(0), due);
    }

    // ---- promise 14

    private static void undoing() {
        Check.says("Calls of seed(), write(), pay(), lend(), cancel(), hold() that aren't refused (even if all is as "
            + "it was), of perform(), year() that did one thing at least, can be UNDONE each as a whole, the latest "
            + "first, 10 at most (eldest are forgotten): CASH, who is BROKEN, letters, the FAIR, x.");
        long[][] seen = new long[DONE + 1][];
        for (int i = 0; i <= DONE; i++) seen[i] = Whole.now(done(i));
        for (int i = 0; i <= DONE; i++) {
            Counted all = done(DONE);
            if (i > 0) Check.due("undo(" + i + ")", all.undo(i), DONE - i);
            Whole.same("undone at once " + i, Whole.now(all), seen[DONE - i]);
            all = done(DONE);
            for (int k = 1; k <= i; k++) Check.due("undo(1)", all.undo(1), DONE - k);
            Whole.same("undone by and by " + i, Whole.now(all), seen[DONE - i]);
            Check.due("x", all.seed(0), done(DONE - i).seed(0));
        }
        Counted x = done(0);
        Check.due("perform() of nothing", x.perform(3), 0);
        Check.due("perform() of what can't be", x.lend(1, 2, 10) == 0 ? x.perform(2) : -9, 0);
        Check.due("undone", x.undo(1), 0);
        int none = 0;
        while (draw(next(none)) % 4 != 1 || draw(next(next(none))) % 4 != 2) none++;
        Check.due("year() of what can't be", x.year(none, 1), 0);
        Check.due("none", x.count(8), 0);
        Whole.same("nothing is done", Whole.now(x), seen[0]);

        for (int many = 9; many <= 12; many++) {
            x = new Counted();
            for (int i = 1; i <= many; i++) x.seed(i);
            int can = Math.min(many, 10);
            Check.due("of " + many, x.count(8), can);
            Check.due("one more than can be", x.undo(can + 1), -3);
            Check.due("all", x.undo(can), 0);
            Check.due("x behind the eldest", x.seed(0), many - can);
        }
        x = new Counted();
        for (int i = 1; i <= 35; i++) x.seed(i);
        for (int i = 34; i >= 25; i--) {
            x.undo(1);
            int left = x.count(8);
            Check.due("left", left, i - 25);
            Check.due("x", x.seed(0), i);
            x.undo(1);
        }
        Check.due("the eldest are forgotten", x.undo(1), -3);

        Check.says("n calls (1 to 10) are UNDONE: how many still can be. -3: n, more than can be.");
        x = new Counted();
        Check.due("none yet", x.undo(1), -3);
        x.seed(1);
        Check.due("undo(0)", x.undo(0), -3);
        Check.due("undo(-1)", x.undo(-1), -3);
        Check.due("undo(2) of one", x.undo(2), -3);
        Check.due("undo(1)", x.undo(1), 0);
        for (int i = 0; i < 11; i++) x.seed(i);
        Check.due("undo(11)", x.undo(11), -3);
        Check.due("undo(9)", x.undo(9), 1);
        for (int i = 0; i < 9; i++) x.seed(i);
        Check.due("undo(10)", x.undo(10), 0);
    }

    private static final int DONE = 8;

    /** One each of the calls that can be undone, as many of them as told. */
    private static Counted done(int many) {
        Counted x = Check.of(THREE + "letter 1 to 0 of 3 at 0;");
        Check.tray(x, 0, 0, 3);
        Check.tray(x, 1, 0, 2);
        Check.tray(x, 2, 1);
        Check.tray(x, 3);
        int fair = 0;
        while (draw(next(fair)) % 4 != 0) fair++;
        if (many > 0) Check.due("seed", x.seed(5), 0);
        if (many > 1) Check.due("write", x.write(2, 1, 7, 7), 4);
        if (many > 2) Check.due("pay", x.pay(1), 10);
        if (many > 3) Check.due("lend", x.lend(0, 1, 9), 41);
        if (many > 4) Check.due("cancel", x.cancel(0), 3);
        if (many > 5) Check.due("perform", x.perform(1), 2);
        if (many > 6) Check.due("year", x.year(fair, 1), 1);
        if (many > 7) Check.due("hold", x.hold(9, true), 1);
        Check.due("can be undone", x.count(8), many);
        return x;
    }

    public static void main(String[] args) {
        counting();
        kept();
        shorts();
        lates();
        asked();
        deeds();
        rings();
        undoing();
        Check.close("FairBoundsTest");
    }
}
