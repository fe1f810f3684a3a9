/** Promises 8 to 17: deeds, undoing, trays of deeds, years by draws. */
public final class DeedsTest {
    private static final String FOUR = "fairs 2 moneys 1;merchant 50;merchant 30;merchant 0;merchant 9;"
        + "letter 0 to 1 of 20 at 0;letter 1 to 2 of 40 at 1 late 5;letter 2 to 0 of 15 at 0;letter 1 to 0 of 20 at 2;";

    private static int drawn;

    private static int draw() {
        drawn = 1103515245 * drawn + 12345;
        return drawn >>> 16;
    }

    private static Counted four() {
        Counted x = new Counted();
        Check.due("3: four", Check.tell(x, FOUR), 9);
        return x;
    }

    private static void seeds() {
        Counted x = four();
        Check.due("8: at first", x.seed(-7), 0);
        Check.due("8: what it was", x.seed(-7), -7);
        Check.due("8: undone even if all is as it was", x.count(8), 2);
        Check.due("14: x too", x.undo(2), 0);
        Check.due("14: x too", x.seed(3), 0);
    }

    private static void writes() {
        Counted x = four();
        Check.due("9: who", x.write(4, 0, 0, 0), -2);
        Check.due("9: who", x.write(-1, 0, 1, 0), -2);
        Check.due("9: whom", x.write(0, 4, 1, -1), -2);
        Check.due("9: both one", x.write(3, 3, 1, 0), -2);
        Check.due("9: much", x.write(3, 0, 0, 0), -3);
        Check.due("9: much", x.write(3, 0, 1000, 0), -3);
        Check.due("9: in", x.write(3, 0, 1, -1), -3);
        Check.due("9: in", x.write(3, 0, 1, 21), -3);
        Check.due("9: nothing changed", x.count(8), 0);
        x.hold(1, false);
        Check.due("9: its number", x.write(3, 0, 999, 20), 4);
        int[] letter = {3, 0, 999, 20, 0, 0};
        for (int w = 0; w < 6; w++) Check.due("9: letter " + w, x.letter(4, w), letter[w]);
        for (int l = 5; l < 12; l++) Check.due("9: its number", x.write(0, 3, 1, 0), l);
        Check.due("9: there are 12", x.write(0, 3, 1, 0), -4);
        Check.due("9: ahead of it", x.write(0, 3, 1, 21), -3);
        Check.due("14: letters too", x.undo(8), 1);
        Check.due("14: letters too", x.count(4), 4);
        // merchant 2 broke at the fair held above
        Check.due("9: broken", x.write(2, 3, 1, 0), -5);
        Check.due("9: broken", x.write(3, 2, 1, 0), -5);
        Check.due("9: ahead of it", x.write(3, 2, 0, 0), -3);
        for (int l = 4; l < 12; l++) Check.due("9: its number", x.write(0, 3, 1, 0), l);
        Check.due("9: ahead of broken", x.write(3, 2, 1, 0), -4);
    }

    private static void pays() {
        Counted x = four();
        Check.due("10: none", x.pay(4), -11);
        Check.due("10: none", x.pay(-1), -11);
        Check.due("10: no cash", x.pay(1), -13);
        Check.due("10: how much", x.pay(0), 20);
        Check.cash(x, 30, 50, 0, 9);
        Check.due("10: paid", x.letter(0, 4), 1);
        Check.due("10: how much then", x.letter(0, 2), 0);
        Check.due("10: when then", x.letter(0, 3), -1);
        Check.due("10: again", x.pay(0), -12);
        Check.due("10: ahead of its fair", x.pay(1), 40);
        Check.cash(x, 30, 10, 40, 9);
        Check.due("10: no cash now", x.pay(3), -13);
        Check.due("14: one", x.undo(1), 1);
        Check.cash(x, 30, 50, 0, 9);
        Check.due("14: letter", x.letter(1, 4), 0);
        Check.due("14: letter", x.letter(1, 2), 40);
        Counted y = new Counted();
        Check.tell(y, "fairs 1 moneys 1;merchant 0;merchant 5;letter 0 to 1 of 1 at 0;letter 1 to 0 of 1 at 3;");
        y.hold(1, false);
        Check.due("10: void", y.pay(1), -12);
    }

    private static void lends() {
        Counted x = four();
        Check.due("11: both one", x.lend(1, 1, 5), -11);
        Check.due("11: from", x.lend(4, 1, 5), -11);
        Check.due("11: to", x.lend(1, -1, 5), -11);
        Check.due("11: n", x.lend(1, 2, 0), -11);
        Check.due("11: n", x.lend(1, 2, 1000), -11);
        Check.due("11: no cash", x.lend(1, 2, 31), -13);
        Check.due("11: cash of who lent", x.lend(1, 2, 30), 0);
        Check.cash(x, 50, 0, 30, 9);
        Check.due("11: cash of who lent", x.lend(2, 0, 999), -13);
        Check.due("11: none is paid", x.count(5), 15);
        Check.due("11: cash of who lent", x.lend(2, 0, 1), 29);
        Counted y = new Counted();
        Check.tell(y, "fairs 1 moneys 1;merchant 0;merchant 5;letter 0 to 1 of 1 at 0;");
        y.hold(1, false);
        Check.due("11: broken", y.lend(1, 0, 1), -12);
        Check.due("11: broken", y.lend(0, 1, 1), -12);
        Check.due("11: ahead of broken", y.lend(1, 0, 0), -11);
    }

    private static void cancels() {
        Counted x = four();
        Check.due("12: tray", x.cancel(4), -2);
        Check.due("12: tray", x.cancel(-1), -2);
        Check.due("12: missing", x.cancel(3), -6);
        Check.tray(x, 3, 0);
        Check.due("12: one", x.cancel(3), -11);
        Check.tray(x, 3, 0, 1, 2, 0, 1, 2, 0);
        Check.due("12: seven", x.cancel(3), -11);
        Check.tray(x, 3, 0, 4);
        Check.due("12: no letter", x.cancel(3), -11);
        Check.tray(x, 3, 0, 0, -1);
        Check.due("12: no letter", x.cancel(3), -11);
        Check.tray(x, 3, 0, 4294967299L);
        Check.due("12: no letter", x.cancel(3), -11);
        Check.tray(x, 3, 0, 0);
        Check.due("12: told twice", x.cancel(3), -12);
        Check.tray(x, 3, 0, 3, 0, 3);
        Check.due("12: told twice", x.cancel(3), -12);
        Check.tray(x, 3, 0, 2, 1);
        Check.due("12: no ring", x.cancel(3), -12);
        Check.tray(x, 3, 0, 1);
        Check.due("12: no ring", x.cancel(3), -12);
        Check.due("12: nothing changed", x.count(8), 0);
        Check.tray(x, 3, 1, 2, 0);
        Check.due("12: by the least", x.cancel(3), 15);
        Check.due("12: 0", x.letter(0, 2), 5);
        Check.due("12: 1", x.letter(1, 2), 25);
        Check.due("12: 2 is paid", x.letter(2, 4), 1);
        Check.cash(x, 50, 30, 0, 9);
        Check.due("12: paid", x.cancel(3), -12);
        Check.tray(x, 3, 3, 0);
        Check.due("12: two", x.cancel(3), 5);
        Check.due("12: what is left", x.count(5), 10);
        Check.due("14: undone", x.undo(2), 0);
        Check.due("14: undone", x.letter(1, 2), 40);
        Check.due("14: undone", x.letter(0, 2), 20);
        // merchants may come twice: 0 1 0 1
        x.write(0, 1, 7, 5);
        x.write(1, 0, 9, 5);
        Check.tray(x, 0, 0, 3, 4, 5);
        Check.due("12: merchants twice", x.cancel(0), 7);
        Check.due("12: merchants twice", x.letter(5, 2), 2);
    }

    private static void holds() {
        Counted x = four();
        Check.due("13: n", x.hold(0, true), -3);
        Check.due("13: n", x.hold(21, false), -3);
        // net: 0 owes 20, is owed 15; 1 is owed 20; 2 owes 15 and has none: it breaks, so letters 1 and 2 are void
        Check.due("13: one", x.hold(1, false), 1);
        Check.cash(x, 30, 50, 0, 9);
        Check.due("13: bits", x.count(3), 4);
        Check.due("13: paid", x.letter(0, 4), 1);
        Check.due("13: void, not due here", x.letter(1, 4), 2);
        Check.due("13: void", x.letter(2, 4), 2);
        Check.due("13: not yet", x.letter(3, 3), 1);
        Check.due("13: fair", x.count(6), 1);
        Check.due("13: two", x.hold(2, false), 0);
        Check.cash(x, 50, 30, 0, 9);
        Check.due("13: 20", x.hold(20, true), 0);
        Check.due("13: fair", x.count(6), 23);
        Check.due("14: more than can be", x.undo(4), -3);
        Check.due("14: two as a whole", x.undo(2), 1);
        Check.due("14: fair", x.count(6), 1);
        Check.due("14: broken", x.count(3), 4);
        Check.due("14: one more", x.undo(1), 0);
        Check.due("14: broken", x.count(3), 0);
        Check.due("14: void no more", x.letter(1, 4), 0);
    }

    // All are found short at once: 1 and 2 break, though 2 wouldn't, had 1 been found alone.
    private static void atOnce() {
        Counted x = new Counted();
        Check.tell(x, "fairs 1 moneys 1;merchant 0;merchant 2;merchant 3;letter 1 to 0 of 5 at 0;"
            + "letter 2 to 1 of 4 at 0;letter 0 to 2 of 5 at 7;");
        // 1: 2 - 5 + 4 = 1; 2: 3 - 4 = -1: 2 breaks; then 1: 2 - 5 = -3: it breaks
        Check.due("13: one behind the other", x.hold(1, false), 2);
        Check.due("13: bits", x.count(3), 6);
        Check.cash(x, 0, 2, 3);
        Check.due("13: void to the broken", x.letter(2, 4), 2);
        Check.tell(x, "fairs 1 moneys 1;merchant 0;merchant 0;merchant 0;letter 0 to 1 of 5 at 0;"
            + "letter 1 to 2 of 9 at 0;letter 2 to 0 of 1 at 0;");
        // 0: -4 and 1: -4 are short at once; without 0's letter 1 owes still
        Check.due("13: at once", x.hold(1, false), 2);
        Check.due("13: bits", x.count(3), 3);
        Check.tell(x, "fairs 1 moneys 1;merchant 0;merchant 5;merchant 0;letter 0 to 1 of 5 at 0;"
            + "letter 1 to 0 of 3 at 0;letter 1 to 2 of 8 at 0;");
        // 0: -2 is short, 1: 5 + 5 - 11 = -1 is short, at once; without 0's letters 1 would have 5 - 8
        Check.due("13: at once", x.hold(1, false), 2);
        Check.due("13: bits", x.count(3), 3);
    }

    private static void times() {
        Counted x = new Counted();
        String head = "fairs 3 moneys 1;merchant 4;merchant 2;merchant 50;letter 0 to 2 of 9 at 0;"
            + "letter 0 to 1 of 1 at 0;letter 1 to 2 of 5 at 0;letter 2 to 0 of 30 at 2;fair 5;";
        // 0: 4 - 10, short by 6; 1: 2 + 1 - 5, short by 2
        Check.tell(x, head + "time : short = 6 and cash = 4 and fair = 2 and year = 1 and who = 0;");
        Check.due("13: 1 breaks", x.hold(1, false), 1);
        Check.due("13: bits", x.count(3), 2);
        Check.due("13: 0 has time", x.letter(0, 3), 0);
        Check.due("13: 0's letter to 1 is void", x.letter(1, 4), 2);
        Check.due("13: 1's is void", x.letter(2, 4), 2);
        Check.cash(x, 4, 2, 50);
        Check.due("13: no time at the next fair", x.hold(1, false), 1);
        Check.due("13: bits", x.count(3), 3);
        Check.tell(x, head + "time : not short > 6;");
        Check.due("13: time for all", x.hold(2, false), 0);
        Check.due("13: later and later", x.letter(0, 3), 0);
        Check.due("13: later and later", x.letter(2, 3), 0);
        // 0: 4 - 10 + 30; 1: 2 + 1 - 5, short by 2 still
        Check.due("13: paid by what is owed", x.hold(1, false), 0);
        Check.cash(x, 24, 3, 29);
        Check.due("13: paid", x.letter(0, 4), 1);
        Check.due("13: time once more", x.letter(2, 3), 0);
    }

    /** Is time given to merchant 1, who is short by 6 with 3, at fair 17 of 5 a year? */
    private static void law(String law, boolean holds) {
        Counted x = new Counted();
        Check.tell(x, "fairs 5 moneys 1;merchant 0;merchant 3;letter 1 to 0 of 9 at 0;fair 17;time : " + law + ";");
        Check.due("13: " + law, x.hold(1, false), holds ? 0 : 1);
        Check.due("13: " + law, x.letter(0, 4), holds ? 0 : 2);
    }

    private static void laws() {
        law("who = 1", true);
        law("who < 1", false);
        law("who > 0", true);
        law("cash > 3", false);
        law("cash < 3", false);
        law("cash = 3", true);
        law("short = 6", true);
        law("fair = 2 and year = 3", true);
        law("fair * 100 + year = 203", true);
        law("not who = 1", false);
        law("not not who = 1", true);
        law("not who = 1 or cash = 3", true);
        law("not [who = 1 or cash = 3]", false);
        law("who = 1 or cash = 3 and short = 0", true);
        law("[who = 1 or cash = 3] and short = 0", false);
        law("short = 0 and who = 1 or cash = 3", true);
        law("who = 0 or cash = 0 or short = 6", true);
        law("who = 1 and cash = 3 and short = 0", false);
        law("(who + 1) * 2 = 4", true);
        law("10 - cash - short = 1", true);
        law("10 - (cash - short) = 13", true);
        law("0 - short < 0 - 5", true);
        law("999 * 999 * 999 = 1 + 999 * 999 * 2", true);
        law("0 - 999 * 999 * 999 = 0 - 999 * 999 - 999 * 999 + 0 * who", true);
        law("1 = 1;time : 1 = 2", false);
        law("1 = 2;time : 1 = 1", true);
    }

    private static void mules() {
        Counted x = new Counted();
        String text = "fairs 1 moneys 1;merchant 99;merchant 99;letter 0 to 1 of 1 at 0 late 5;"
            + "letter 0 to 1 of 2 at 0;letter 0 to 1 of 4 at 1 late 9;letter 1 to 0 of 8 at 0 late 9;"
            + "letter 1 to 0 of 16 at 0 late 1;";
        for (int seed = 0; seed < 40; seed++) {
            x = new Counted();
            Check.tell(x, text);
            x.seed(seed);
            drawn = seed;
            boolean late0 = draw() % 10 < 5;
            boolean late3 = draw() % 10 < 9;
            boolean late4 = draw() % 10 < 1;
            Check.due("13: with mules", x.hold(1, true), 0);
            Check.due("13: late 0", x.letter(0, 4), late0 ? 0 : 1);
            Check.due("13: here now", x.letter(0, 3), late0 ? 0 : -1);
            Check.due("13: never late", x.letter(1, 4), 1);
            Check.due("13: not drawn of", x.letter(2, 3), 0);
            Check.due("13: late 3", x.letter(3, 4), late3 ? 0 : 1);
            Check.due("13: late 4", x.letter(4, 4), late4 ? 0 : 1);
            Check.due("13: cash", x.merchant(0, 0), 97 - (late0 ? 0 : 1) + (late3 ? 0 : 8) + (late4 ? 0 : 16));
            Check.due("13: three draws", x.seed(0), drawn);
        }
        Check.tell(x, text);
        x.seed(4);
        Check.due("13: without", x.hold(1, false), 0);
        Check.due("13: all paid", x.count(5), 4);
        Check.due("13: no draws", x.seed(0), 4);
        // time given by (2) is after the draws: late or not, letter 0 is due a fair later
        Check.tell(x, "fairs 1 moneys 1;merchant 0;merchant 9;letter 0 to 1 of 1 at 0 late 9;time : 1 = 1;");
        x.hold(3, true);
        Check.due("13: a fair later each", x.letter(0, 3), 0);
        Check.due("13: owed", x.letter(0, 4), 0);
    }

    private static void undoing() {
        Counted x = four();
        Check.due("14: none yet", x.undo(1), -3);
        for (int i = 1; i <= 12; i++) x.seed(i);
        Check.due("14: ten at most", x.count(8), 10);
        Check.due("14: 0", x.undo(0), -3);
        Check.due("14: -1", x.undo(-1), -3);
        Check.due("14: 11", x.undo(11), -3);
        Check.due("14: three", x.undo(3), 7);
        Check.due("14: the latest first", x.seed(50), 9);
        Check.due("14: eight now", x.undo(8), 0);
        Check.due("14: the eldest are forgotten", x.seed(0), 2);
        x = four();
        x.pay(9);
        x.lend(0, 0, 1);
        x.write(0, 0, 1, 1);
        x.hold(0, true);
        x.cancel(0);
        x.year(1, 0);
        x.perform(0);
        x.undo(1);
        x.restore(0);
        x.numbers(0, 0, 3);
        x.put(0, 0, 3);
        x.lists(0);
        x.image(0);
        x.judge(0, 0);
        Check.due("14: no refused ones, no others", x.count(8), 0);
    }

    private static void judges() {
        Counted x = four();
        Check.due("15: tray", x.judge(4, 0), -2);
        Check.due("15: tray", x.judge(-1, 0), -2);
        Check.due("15: what, ahead of missing", x.judge(0, 4), -2);
        Check.due("15: what", x.judge(0, -1), -2);
        Check.due("15: missing", x.judge(0, 3), -6);
        Check.due("16: tray", x.perform(4), -2);
        Check.due("16: missing", x.perform(0), -6);
        x.numbers(0, 0, 0);
        judged(x, "none", -1, 0, 0, 0);
        Check.due("16: none", x.perform(0), 0);
        // pay 0; ring of 0 and 3: 0 is paid
        deeds("ring of a paid one", 1, 2, 0, 0, 0, 103);
        deeds("ring of two", -1, 0, 0, 0, 130);
        deeds("no ring", 0, 2, 0, 0, 101);
        deeds("both one", 0, 1, 0, 0, 100);
        deeds("no such letter", 0, 1, 0, 0, 104);
        deeds("no such letter", 0, 1, 0, 0, 140);
        deeds("no such letter", 0, 1, 0, 0, 4);
        deeds("paid", 1, 2, 0, 0, 0, 0);
        deeds("no cash", 0, 3, 0, 0, 1);
        deeds("lent", -1, 0, 0, 0, 1002, 1021);
        deeds("no cash to lend", 0, 3, 0, 0, 1030);
        deeds("lent to itself", 0, 1, 0, 0, 1011);
        deeds("no merchant", 0, 1, 0, 0, 1004);
        deeds("no merchant", 0, 1, 0, 0, 1090);
        deeds("a fair", -1, 0, 4, 1, -1);
        deeds("paid, then no cash", 3, 3, 0, 0, 0, 1013, 3, 1);
        deeds("broken lends", 1, 2, 4, 1, -1, 1020, -1);
        deeds("broken is lent", 2, 2, 4, 2, -1, -1, 1002);
        deeds("void", 1, 2, 4, 1, -1, 1);
        long[] none = {-2, 200, 999, 1100, 1999, 2001, Long.MIN_VALUE, Long.MAX_VALUE, 1L << 32, (1L << 32) - 1};
        for (long v : none) deeds("no such number " + v, 1, 1, 4, 1, -1, v, -1);
        // lending to 2 saves it
        deeds("saved", -1, 0, 0, 1, 1002, 1002, -1);
    }

    private static void judged(Counted x, String what, int place, int why, int broken, int fair) {
        Check.due("15: place: " + what, x.judge(0, 0), place);
        Check.due("15: why: " + what, x.judge(0, 1), why);
        Check.due("15: broken: " + what, x.judge(0, 2), broken);
        Check.due("15: fair: " + what, x.judge(0, 3), fair);
    }

    /** Judged, then done, then undone. */
    private static void deeds(String what, int place, int why, int broken, int fair, long... told) {
        Counted x = four();
        Check.tray(x, 0, told);
        judged(x, what, place, why, broken, fair);
        Check.due("15: nothing is done: " + what, x.count(8), 0);
        int done = place < 0 ? told.length : place;
        Check.due("16: " + what, x.perform(0), done);
        Check.due("16: broken: " + what, x.count(3), broken);
        Check.due("16: fair: " + what, x.count(6), fair);
        Check.due("16: as a whole, if one was done: " + what, x.count(8), done > 0 ? 1 : 0);
        if (done > 0) Check.due("14: " + what, x.undo(1), 0);
        Check.due("14: cash of all: " + what, x.count(7), 89);
        Check.due("14: letters: " + what, x.count(5), 15);
    }

    private static void performs() {
        Counted x = four();
        Check.tray(x, 1, 0, 1013, 102);
        Check.due("16: two", x.perform(1), 2);
        Check.cash(x, 30, 40, 0, 19);
        Check.due("16: paid", x.letter(0, 4), 1);
        x.undo(1);
        x.numbers(2, 0, 3);
        x.put(2, 0, -1);
        x.put(2, 1, 3);
        x.put(2, 2, 130);
        Check.due("16: 8 bits", x.perform(2), 2);
        // with mules: letter 1 is due at fair 1 with 5 in 10
        for (int seed = 0; seed < 12; seed++) {
            x = four();
            x.write(0, 2, 15, 0);
            x.seed(seed);
            drawn = seed;
            boolean late = draw() % 10 < 5;
            Check.tray(x, 1, 2000, 2000);
            Check.due("15: and drawn", x.judge(1, 2), 0);
            Check.due("16: mules", x.perform(1), 2);
            Check.due("16: late", x.letter(1, 4), late ? 0 : 1);
            Check.due("16: drawn", x.seed(0), drawn);
        }
    }

    private static void years() {
        Counted x = new Counted();
        Check.due("17: times", x.year(1, 0), -3);
        Check.due("17: times", x.year(1, 31), -3);
        for (int seed = 0; seed < 60; seed++) {
            // without letters and merchants only fairs can be, and the others draw no more
            x = new Counted();
            drawn = seed;
            int fairs = 0;
            for (int i = 0; i < 5; i++) if (draw() % 4 == 0) fairs++;
            Check.due("17: only fairs", x.year(seed, 5), fairs);
            Check.due("17: the fair", x.count(6), fairs);
            Check.due("17: undone as a whole", x.count(8), fairs > 0 ? 1 : 0);
            Check.due("17: x, unless nothing could be", x.seed(0), fairs > 0 ? drawn : 0);
        }
        for (int seed = -100; seed < 100; seed++) oneTime(seed);
    }

    private static void oneTime(int seed) {
        Counted x = new Counted();
        StringBuilder text = new StringBuilder("fairs 1 moneys 1;merchant 40;merchant 5;merchant 20;");
        for (int l = 0; l < 11; l++) {
            text.append("letter ").append(l % 2).append(" to ").append(1 - l % 2);
            text.append(" of ").append(10 + l).append(" at 3;");
        }
        Check.tell(x, text.toString());
        x.seed(77);
        drawn = seed;
        int sort = draw() % 4;
        int many = sort == 3 ? 3 : 11;
        int a = sort == 0 ? 0 : draw() % many;
        int b = sort < 2 ? 0 : draw() % many;
        boolean can = true;
        if (sort == 1) can = a % 2 == 0;
        if (sort == 2) can = a < 10 && b < 10 && a % 2 != b % 2;
        if (sort == 3) can = a != b && a != 1;
        String what = "17: seed " + seed + ", sort " + sort + ", " + a + " " + b;
        Check.due(what, x.year(seed, 1), can ? 1 : 0);
        Check.due(what + ", undoing", x.count(8), can ? 2 : 1);
        Check.due(what + ", the fair", x.count(6), sort == 0 ? 1 : 0);
        if (can && sort == 1) Check.due(what + ", paid", x.letter(a, 4), 1);
        if (can && sort == 2) Check.due(what + ", paid", x.letter(Math.min(a, b), 4), 1);
        if (can && sort == 2) Check.due(what + ", less", x.letter(Math.max(a, b), 2), Math.abs(a - b));
        if (can && sort == 3) Check.due(what + ", lent", x.merchant(a, 0), a == 0 ? 30 : 10);
        Check.due(what + ", x", x.seed(0), can ? drawn : 77);
        if (can) Check.due(what + ", undone", x.undo(2), 1);
        if (can) Check.due(what + ", x undone", x.seed(0), 77);
    }

    public static void main(String[] args) {
        seeds();
        writes();
        pays();
        lends();
        cancels();
        holds();
        atOnce();
        times();
        laws();
        mules();
        undoing();
        judges();
        performs();
        years();
        Check.close("DeedsTest");
    }
}
