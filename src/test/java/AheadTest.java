/** Promises 18 to 34: what is due, who breaks, rings, late. */
public final class AheadTest {
    private static void dues() {
        Counted x = Check.of("fairs 1 moneys 1;merchant 10;merchant 20;merchant 5;letter 0 to 1 of 7 at 0;"
            + "letter 1 to 2 of 9 at 0;letter 2 to 0 of 3 at 20;letter 0 to 2 of 12 at 4;letter 0 to 1 of 2 at 4;"
            + "letter 1 to 2 of 1 at 4;");
        Check.due("18: here", x.due(0), 3);
        Check.due("18: in 4", x.due(4), 56);
        Check.due("18: in 20", x.due(20), 4);
        Check.due("18: in 30", x.due(30), 0);
        Check.due("18: n", x.due(-1), -3);
        Check.due("18: n", x.due(31), -3);
        Check.due("19: 0 here", x.net(0, 0), -7);
        Check.due("19: 1 here", x.net(1, 0), -2);
        Check.due("19: 2 in 4", x.net(2, 4), 13);
        Check.due("19: in 30", x.net(2, 30), 0);
        Check.due("19: none", x.net(3, 31), -99000002);
        Check.due("19: none", x.net(-1, 0), -99000002);
        Check.due("19: n", x.net(0, -1), -99000003);
        Check.due("19: n", x.net(0, 31), -99000003);
        Check.due("20: coin", x.coin(0, 0), 9);
        Check.due("20: gross", x.coin(0, 1), 16);
        Check.due("20: cancelled", x.coin(0, 2), 7);
        Check.due("20: coin in 4, though 0 hasn't so much", x.coin(4, 0), 14);
        Check.due("20: gross in 4", x.coin(4, 1), 15);
        Check.due("20: cancelled in 4", x.coin(4, 2), 1);
        Check.due("20: in 30", x.coin(30, 1), 0);
        Check.due("20: what", x.coin(31, 3), -2);
        Check.due("20: what", x.coin(0, -1), -2);
        Check.due("20: n", x.coin(31, 0), -3);
        Check.due("20: n", x.coin(-1, 2), -3);
        Check.due("21: in 4", x.heaviest(), 4);
        x.write(2, 1, 14, 2);
        Check.due("21: the first of like ones", x.heaviest(), 2);
        x.hold(3, false);
        Check.due("18: nearer", x.due(1), 56);
        Check.due("18: nearer", x.due(17), 4);
        Check.due("21: nearer", x.heaviest(), 1);
        Check.due("18: paid", x.due(0), 0);
        Check.due("45: owed", x.count(5), 60);
    }

    private static final String ROW = "fairs 1 moneys 1;merchant 10;merchant 0;merchant 0;merchant 0;merchant 7;"
        + "letter 0 to 1 of 10 at 1;letter 1 to 2 of 10 at 1;letter 2 to 3 of 8 at 2;letter 3 to 4 of 20 at 5;";

    private static void ahead() {
        Counted x = Check.of(ROW);
        // fair 1: 0 pays 10, by 1 to 2; fair 2: 2 pays 8 to 3; fair 5: 3 owes 20, has 8: it breaks
        int[][] cash = {{10, 10, 0, 0, 0, 0, 0}, {0, 0, 0, 0, 0, 0, 0}, {0, 0, 10, 2, 2, 2, 2},
            {0, 0, 0, 8, 8, 8, 8}, {7, 7, 7, 7, 7, 7, 7}};
        for (int m = 0; m < 5; m++) {
            for (int n = 0; n < 7; n++) Check.due("22: " + m + " in " + n, x.cashIn(m, n), cash[m][n]);
        }
        Check.due("22: 30", x.cashIn(4, 30), 7);
        Check.due("22: none", x.cashIn(5, 31), -2);
        Check.due("22: none", x.cashIn(-1, 0), -2);
        Check.due("22: n", x.cashIn(0, -1), -3);
        Check.due("22: n", x.cashIn(0, 31), -3);
        Check.due("23: 3", x.breaksIn(3), 6);
        Check.due("23: 4", x.breaksIn(4), -1);
        Check.due("23: none", x.breaksIn(5), -2);
        Check.due("23: none", x.breaksIn(-1), -2);
        Check.due("24: behind 5", x.broken(5), 0);
        Check.due("24: behind 6", x.broken(6), 8);
        Check.due("24: now", x.broken(0), 0);
        Check.due("24: n", x.broken(-1), -3);
        Check.due("24: n", x.broken(31), -3);
        Check.due("22: nothing is held", x.count(6), 0);
        x.hold(6, true);
        Check.due("23: it is", x.breaksIn(3), 0);
        Check.due("24: it is", x.broken(0), 8);
    }

    private static void chains() {
        Counted x = Check.of(ROW);
        Check.due("25: of 0; 3 breaks anyhow", x.chain(0, 6), 6);
        Check.due("25: of 0 within 2", x.chain(0, 2), 2);
        Check.due("25: of 0 within 3", x.chain(0, 3), 6);
        Check.due("25: of 1", x.chain(1, 30), 4);
        Check.due("25: of 2", x.chain(2, 30), 0);
        Check.due("25: of 3, 4 has 7", x.chain(3, 30), 0);
        Check.due("25: none", x.chain(5, 0), -2);
        Check.due("25: none", x.chain(-1, 1), -2);
        Check.due("25: n", x.chain(0, 0), -3);
        Check.due("25: n", x.chain(0, 31), -3);
        Check.due("26: 0", x.pillar(3), 0);
        Check.due("26: within 1", x.pillar(1), -1);
        Check.due("26: n", x.pillar(0), -3);
        Check.due("26: n", x.pillar(31), -3);
        x.hold(6, false);
        Check.due("25: broken", x.chain(3, 1), -5);
        Check.due("25: n, ahead of broken", x.chain(3, 0), -3);
        Check.due("26: all of none", x.pillar(30), -1);
        // 4 and 5 hang on 3, 1 and 2 on 0: like ones
        Counted y = Check.of("fairs 1 moneys 1;merchant 9;merchant 0;merchant 0;merchant 9;merchant 0;merchant 0;"
            + "letter 3 to 4 of 4 at 0;letter 3 to 5 of 5 at 0;letter 4 to 3 of 4 at 1;letter 5 to 0 of 5 at 1;"
            + "letter 0 to 1 of 4 at 1;letter 0 to 2 of 5 at 2;letter 1 to 0 of 4 at 2;letter 2 to 3 of 5 at 3;");
        // letters to and by 3 are void: 5 owes 5 at 1 and has none; 4 owes nobody
        Check.due("25: of 3", y.chain(3, 9), 32);
        // 1 owes nobody then; 2 owes 5 to 3 at 3
        Check.due("25: of 0", y.chain(0, 9), 4);
        Check.due("25: of 1", y.chain(1, 9), 0);
        Check.due("26: the first of like ones", y.pillar(9), 0);
    }

    private static void saving() {
        Counted x = Check.of(ROW);
        Check.due("27: 3", x.saves(3, 6), 12);
        Check.due("27: not by then", x.saves(3, 5), 0);
        Check.due("27: none", x.saves(5, 0), -2);
        Check.due("27: none", x.saves(-1, 1), -2);
        Check.due("27: n", x.saves(0, 0), -3);
        Check.due("27: n", x.saves(0, 31), -3);
        Check.due("28: 3", x.favour(12, 6), 3);
        Check.due("28: too little", x.favour(11, 6), -1);
        Check.due("28: 1 is too little", x.favour(1, 6), -1);
        Check.due("28: sum", x.favour(0, 6), -3);
        Check.due("28: sum", x.favour(1000, 6), -3);
        Check.due("28: n", x.favour(12, 0), -3);
        Check.due("28: n", x.favour(12, 31), -3);
        x.hold(6, false);
        Check.due("27: broken", x.saves(3, 1), -5);
        Check.due("27: n, ahead of broken", x.saves(3, 0), -3);
        Check.due("28: broken ones aren't helped", x.favour(999, 6), -1);
        // 1 hangs on 0, 2 on 1; 3 is alone
        Counted y = Check.of("fairs 1 moneys 1;merchant 0;merchant 0;merchant 0;merchant 0;merchant 0;"
            + "letter 0 to 1 of 5 at 0;letter 1 to 2 of 5 at 0;letter 2 to 4 of 5 at 0;letter 3 to 4 of 3 at 0;");
        Check.due("24: four", y.broken(1), 15);
        Check.due("28: 0 saves three", y.favour(5, 1), 0);
        Check.due("28: 4 saves but 3", y.favour(4, 1), 3);
        Check.due("27: least", y.saves(2, 1), 5);
        // more cash can break: time is given to the poor alone
        Counted z = Check.of("fairs 1 moneys 1;merchant 3;merchant 0;letter 0 to 1 of 900 at 0;"
            + "time : cash < 5 or cash = 8;");
        Check.due("27: by none, time is given", z.saves(0, 5), 0);
        z.lend(0, 1, 3);
        z.write(1, 0, 6, 1);
        // fair 0: has 0, time; fair 1: 6 come, 0 + 6 - 900: cash is 0 still
        Check.due("27: time again", z.saves(0, 2), 0);
        Counted w = Check.of("fairs 1 moneys 1;merchant 5;merchant 0;letter 0 to 1 of 900 at 0;"
            + "time : cash < 5 or cash = 8;");
        Check.due("27: three more, then time is given", w.saves(0, 5), 3);
        Check.due("28: 3 would, 4 wouldn't", w.favour(3, 1), 0);
        Check.due("28: 4 wouldn't", w.favour(4, 1), -1);
        StringBuilder much = new StringBuilder("fairs 1 moneys 1;merchant 0;merchant 0;");
        for (int i = 0; i < 10; i++) much.append("letter 0 to 1 of 999 at ").append(i).append(';');
        Counted v = Check.of(much.toString());
        Check.due("27: 9990", v.saves(0, 30), 9990);
        Check.due("27: 999", v.saves(0, 1), 999);
        v.write(0, 1, 9, 20);
        Check.due("27: 9999", v.saves(0, 30), 9999);
        v.undo(1);
        v.write(0, 1, 10, 20);
        Check.due("27: by none", v.saves(0, 30), -1);
    }

    /** As far as 30 fairs: time is given till the last but one. */
    private static void farthest() {
        String head = "fairs 1 moneys 1;merchant 0;merchant 0;merchant 5;merchant 0;letter 0 to 1 of 5 at 0;"
            + "letter 2 to 3 of 5 at 20;letter 3 to 2 of 5 at 20;time : year < ";
        Counted x = Check.of(head + "29;");
        Check.due("23: behind 30", x.breaksIn(0), 30);
        Check.due("24: behind 30", x.broken(30), 1);
        Check.due("24: behind 29", x.broken(29), 0);
        Check.due("27: within 30", x.saves(0, 30), 5);
        Check.due("27: within 29", x.saves(0, 29), 0);
        Check.due("28: within 30", x.favour(5, 30), 0);
        Check.due("28: too little", x.favour(4, 30), -1);
        Check.due("25: 0 breaks anyhow", x.chain(1, 30), 0);
        x = Check.of(head + "30;");
        Check.due("23: not by then", x.breaksIn(0), -1);
        Check.due("24: not by then", x.broken(30), 0);
        x = Check.of("fairs 1 moneys 1;merchant 0;merchant 0;merchant 1;letter 0 to 2 of 1 at 0;"
            + "letter 2 to 1 of 1 at 0;"
            + "letter 2 to 0 of 1 at 1;time : year < 29;");
        Check.due("23: not by then", x.breaksIn(0), -1);
        Check.due("25: of 2, nobody", x.chain(2, 30), 0);
        x.write(0, 1, 1, 1);
        Check.due("23", x.breaksIn(0), 30);
        x.lend(2, 0, 1);
        // 0 has 1 now: it pays 2, who pays 1; at fair 1 0 owes 1 to 1, is owed 1 by 2, who has none till 29
        Check.due("23: 0", x.breaksIn(0), 30);
        Check.due("23: 2", x.breaksIn(2), 30);
        Check.due("26: within 30", x.pillar(30), -1);
        x = Check.of("fairs 1 moneys 1;merchant 0;merchant 1;letter 1 to 0 of 1 at 20;letter 0 to 1 of 1 at 20;"
            + "time : year < 29;");
        Check.due("25: of 1, all void", x.chain(1, 30), 0);
    }

    private static void rings() {
        Counted x = Check.of("fairs 1 moneys 1;merchant 1;merchant 1;merchant 1;merchant 1;"
            + "letter 2 to 0 of 9 at 0;letter 0 to 1 of 6 at 0;letter 1 to 2 of 4 at 0;letter 1 to 0 of 6 at 0;"
            + "letter 0 to 1 of 8 at 1;letter 1 to 2 of 4 at 0;letter 2 to 3 of 1 at 0;");
        // 1 2 0, 1 5 0 and 1 3; letter 4 is due later
        Check.due("29", x.rings(), 3);
        Check.due("30: most", x.ring(0), 12);
        Check.due("30: the first of like ones: 0 1 2 ahead of 0 1 5, 1 3", x.ring(10), 0);
        Check.due("30: many", x.ring(1), 3);
        Check.due("30: second", x.ring(11), 1);
        Check.due("30: third", x.ring(12), 2);
        Check.due("30: not so many", x.ring(13), -1);
        Check.due("30: not so many", x.ring(15), -1);
        for (int what : new int[] {-1, 2, 9, 16, Integer.MIN_VALUE}) Check.due("30: what", x.ring(what), -2);
        Check.tray(x, 0, 0, 1, 2);
        Check.due("12", x.cancel(0), 4);
        // 0: 5, 1: 2, 3: 6, 5: 4
        Check.due("29", x.rings(), 2);
        Check.due("30: 0 1 5 by 2 each", x.ring(0), 6);
        Check.due("30: its third", x.ring(12), 5);
        Counted y = Check.of("fairs 1 moneys 1;merchant 1;merchant 1;letter 0 to 1 of 3 at 0;letter 1 to 0 of 6 at 0;"
            + "letter 0 to 1 of 3 at 0;letter 1 to 0 of 3 at 0;");
        // 0 1, 0 3, 1 2, 2 3; 0 1 2 3, 0 3 2 1
        Check.due("29: merchants may come twice", y.rings(), 6);
        Check.due("30: four by three", y.ring(0), 12);
        Check.due("30: 0 1 2 3", y.ring(11), 1);
        Check.due("30: 0 1 2 3", y.ring(13), 3);
        y.write(0, 1, 6, 0);
        // 1 4 is of 12 as well: 0 1 2 3 is the first
        Check.due("30: of like ones", y.ring(1), 4);
        Check.due("30: a ring without asking how many", Check.of("fairs 1 moneys 1;merchant 0;merchant 1;"
            + "letter 1 to 0 of 1 at 0;letter 0 to 1 of 9 at 0;").ring(0), 2);
        Check.due("30: none", Check.of("fairs 1 moneys 1;").ring(0), -1);
        Check.due("30: what, ahead of none", Check.of("fairs 1 moneys 1;").ring(2), -2);
        // eight merchants' worth of letters, but rings of six at most: 0 to 5 round
        Counted z = Check.of("fairs 1 moneys 1;merchant 1;merchant 1;merchant 1;merchant 1;merchant 1;merchant 1;"
            + "letter 0 to 1 of 2 at 0;letter 1 to 2 of 2 at 0;letter 2 to 3 of 2 at 0;letter 3 to 4 of 2 at 0;"
            + "letter 4 to 5 of 2 at 0;letter 5 to 0 of 2 at 0;");
        Check.due("29: six", z.rings(), 1);
        Check.due("30: six", z.ring(15), 5);
        z.write(0, 1, 9, 0);
        z.write(1, 0, 9, 0);
        // 0 7, 6 7; 0 .. 5; 6 .. 5: of eight letters none
        Check.due("29: six at most", z.rings(), 4);
    }

    private static void hanging() {
        Counted x = Check.of("fairs 1 moneys 1;merchant 1;merchant 1;merchant 1;letter 0 to 1 of 8 at 0;"
            + "letter 1 to 2 of 7 at 0;letter 1 to 0 of 3 at 0;letter 2 to 0 of 5 at 1;");
        // nets -5, -2, 7: coin 7; without 0: 3, -10, 7: 10; without 1: -5, 5, 0: 5; without 2: -8, 1, 7: 8
        Check.due("31: 0", x.hangs(0), -3);
        Check.due("31: 1", x.hangs(1), 2);
        Check.due("31: 2", x.hangs(2), -1);
        Check.due("31: not due here", x.hangs(3), -99000002);
        Check.due("31: none", x.hangs(4), -99000002);
        Check.due("31: none", x.hangs(-1), -99000002);
        x.hold(1, false);
        Check.due("31: void", x.hangs(0), -99000002);
        // 0: 1 - 8, it breaks; 1 after that: 1 - 7, it breaks: letter 3 is to 0
        Check.due("31: void", x.hangs(3), -99000002);
    }

    private static void odds() {
        // 1 breaks if 0's letter is late, unless its own is
        Counted x = Check.of("fairs 1 moneys 1;merchant 5;merchant 0;merchant 0;letter 0 to 1 of 5 at 0 late 3;"
            + "letter 1 to 2 of 5 at 0 late 4;");
        Check.due("32", x.calm(), 8200);
        Check.due("33", x.danger(1), 1800);
        Check.due("33: 0", x.danger(0), 0);
        Check.due("33: none", x.danger(3), -2);
        Check.due("33: none", x.danger(-1), -2);
        Check.due("34", x.vital(), 0);
        x.hold(1, false);
        Check.due("32: nothing due", x.calm(), 10000);
        Check.due("34: nothing due", x.vital(), -1);
        // one in 10,000 and less is cut: five letters late at once, of 1 in 10 each
        Counted y = Check.of("fairs 1 moneys 1;merchant 0;merchant 4;merchant 5;letter 2 to 0 of 1 at 0 late 1;"
            + "letter 2 to 0 of 1 at 0 late 1;letter 2 to 0 of 1 at 0 late 1;letter 2 to 0 of 1 at 0 late 1;"
            + "letter 2 to 0 of 1 at 0 late 1;letter 0 to 1 of 1 at 0;");
        Check.due("33: cut", y.danger(0), 0);
        Check.due("32: cut", y.calm(), 9999);
        Check.due("34: none alone", y.vital(), -1);
        y.write(0, 1, 4, 0);
        // any late one breaks 0: 1 - 9^5 / 10^5 = 0.40951
        Check.due("33: any", y.danger(0), 4095);
        Check.due("32: none", y.calm(), 5904);
        Check.due("34: the first", y.vital(), 0);
        y.write(0, 1, 1, 0);
        Check.due("33: sure", y.danger(0), 10000);
        Check.due("32: sure", y.calm(), 0);
        Check.due("34: not more", y.vital(), -1);
        y.hold(1, false);
        Check.due("33: broken", y.danger(0), -5);
        Check.due("32: nobody else", y.calm(), 10000);
        // letters 0 and 3, late, each break 1 and 2 by it: that none is ever late doesn't matter
        Counted z = Check.of("fairs 1 moneys 1;merchant 0;merchant 1;merchant 0;merchant 9;letter 3 to 1 of 2 at 0;"
            + "letter 1 to 2 of 3 at 0;letter 2 to 0 of 3 at 0;letter 3 to 1 of 2 at 0;letter 1 to 0 of 2 at 0;");
        Check.due("34", z.vital(), 0);
        z.write(3, 2, 1, 0);
        z.write(2, 0, 2, 0);
        // 2: 3 + 1 - 3 - 2 breaks anyhow; 1: 1 + 2 - 3 - 2, with it at once, if letter 0 is late
        Check.due("24", z.broken(1), 4);
        Check.due("34: more than break anyhow", z.vital(), 0);
        z.lend(3, 1, 2);
        Check.due("34: none more", z.vital(), -1);
        // time given is no break
        Counted w = Check.of("fairs 1 moneys 1;merchant 5;merchant 0;merchant 0;letter 0 to 1 of 5 at 0 late 3;"
            + "letter 1 to 2 of 5 at 0 late 4;time : short = 5;");
        Check.due("32: time", w.calm(), 10000);
        Check.due("34: time", w.vital(), -1);
    }

    public static void main(String[] args) {
        dues();
        ahead();
        chains();
        saving();
        farthest();
        rings();
        hanging();
        odds();
        Check.close("AheadTest");
    }
}
