/** Deeds in trays, years, trays, images, counts (promises 15 to 17, 40 to 45): each bound, sentence by sentence. */
public final class TrayBoundsTest {
    private static final String HEAD = "fairs 1 moneys 1;";
    private static final int LEAST = Integer.MIN_VALUE;
    private static final int GREATEST = Integer.MAX_VALUE;

    private static int next(int x) {
        return (int) (1103515245L * x + 12345L);
    }

    private static int draw(int x) {
        return (int) ((x & 0xffffffffL) / 65536);
    }

    // ---- deeds

    /** Six merchants, twelve letters: 0 owes 1 and 1 owes 0 by turns. */
    private static String twelve() {
        StringBuilder s = new StringBuilder(HEAD).append("merchant 60;".repeat(6));
        for (int l = 0; l < 12; l++) {
            s.append("letter ").append(l % 2).append(" to ").append(1 - l % 2).append(" of ").append(l
                + 1).append(" at 9;");
        }
        return s.toString();
    }

    /** One deed alone: why it can't be (0: it can), and the cash behind it. */
    private static void deed(Counted x, long v, int why) {
        Check.tray(x, 0, v);
        Check.due("judge(0) of " + v, x.judge(0, 0), why == 0 ? -1 : 0);
        Check.due("judge(1) of " + v, x.judge(0, 1), why);
        Check.due("perform() of " + v, x.perform(0), why == 0 ? 1 : 0);
    }

    private static void numbers() {
        Check.says("DEEDS in a TRAY: 0 to 99: letter v is PAID; 100 to 199: a RING of two letters (v - 100) by 10 "
            + "and v modulo 10 is CANCELLED; 1000 to 1099: 10 coppers are LENT by (v - 1000) by 10 to v modulo 10;"
            + " 2000: a FAIR with MULES; NONE: a FAIR without.");
        long[] can = {-1, 0, 11, 101, 110, 189, 198, 1001, 1010, 1005, 1050, 1045, 1054, 2000};
        for (long v : can) deed(Check.of(twelve()), v, 0);
        long[] none = {-2, 12, 99, 100, 188, 199, 111, 200, 201, 999, 1000, 1055, 1006, 1060, 1056, 1065, 1099, 1100,
            1101, 1999, 2001,
            1L << 32, (1L << 32) + 1, (1L << 32) - 1, -(1L << 32), (1L << 32) + 1001, Long.MIN_VALUE, Long.MAX_VALUE};
        for (long v : none) deed(Check.of(twelve()), v, 1);
        Counted x = Check.of(twelve());
        deed(x, 11, 0);
        Check.cash(x, 72, 48);
        Check.due("letter 11 is paid", x.count(5), 2047);
        x.undo(1);
        deed(x, 198, 0);
        Check.due("letter 9 is of less", x.letter(9, 2), 1);
        Check.due("letter 8 is paid", x.letter(8, 4), 1);
        x.undo(1);
        deed(x, 1045, 0);
        Check.cash(x, 60, 60, 60, 60, 50, 70);
        x.undo(1);
        deed(x, 1050, 0);
        Check.cash(x, 70, 60, 60, 60, 60, 50);
        x.undo(1);
        deed(x, -1, 0);
        Check.due("a fair", x.count(6), 1);
        Check.due("without mules", x.seed(0), 0);
        x = Check.of(HEAD + "merchant 9;merchant 9;letter 0 to 1 of 1 at 0 late 9;");
        deed(x, 2000, 0);
        Check.due("a fair", x.count(6), 1);
        Check.due("with mules", x.seed(0), 12345);
    }

    private static void reasons() {
        Check.says("Why not: 1 no such letter, MERCHANT, number, both one (letters, too);"
            + " 2 it is PAID, VOID, they are no RING; one is BROKEN; 3 there isn't so much CASH.");
        String text = HEAD + "merchant 10;merchant 9;merchant 0;merchant 50;letter 2 to 3 of 1 at 0;"
            + "letter 3 to 2 of 1 at 5;letter 0 to 1 of 11 at 5;letter 1 to 0 of 9 at 5;letter 3 to 0 of 1 at 0;"
            + "letter 0 to 3 of 10 at 5;letter 0 to 1 of 3 at 1;";
        // behind one fair 2 is broken, 0 has 11, 3 has 49; letters 0 and 1 are void, 4 is paid
        for (int[] row : new int[][] {{7, 1}, {0, 2}, {1, 2}, {4, 2}, {2, 0}, {3, 0}, {5, 0}, {6, 0}, {123, 0},
            {132, 0}, {122, 1}, {144, 1},
            {127, 1}, {172, 1}, {145, 2}, {154, 2}, {125, 2}, {101, 2}, {126, 2}, {1022, 1}, {1020, 2}, {1002, 2},
            {1012, 2}, {1024, 1},
            {1042, 1}, {1010, 3}, {1013, 3}, {1001, 0}, {1003, 0}, {1030, 0}, {1000, 1}}) {
            Counted x = Check.of(text);
            Check.due("2 breaks", x.hold(1, false), 1);
            deed(x, row[0], row[1]);
        }
        Counted x = Check.of(text);
        x.hold(1, false);
        deed(x, 1003, 0);
        deed(x, 1003, 3);
        deed(x, 5, 3);
        deed(x, 2, 3);
        // paid ones are told as paid, whatever cash there is
        x.undo(1);
        deed(x, 2, 0);
        deed(x, 2, 2);
        deed(x, 123, 2);
    }

    private static void judged(Counted x, int place, int why, int broken, int fair) {
        Check.due("judge(0, 0)", x.judge(0, 0), place);
        Check.due("judge(0, 1)", x.judge(0, 1), why);
        Check.due("judge(0, 2)", x.judge(0, 2), broken);
        Check.due("judge(0, 3)", x.judge(0, 3), fair);
    }

    private static void judging() {
        Check.says("DEEDS, judged as if done (and DRAWN), what 0: the first place that can't be (NONE), 1: why (0), "
            + "2: who is BROKEN then, as bits, 3: the FAIR then. -2: the TRAY, what; -6.");
        String text = HEAD + "merchant 0;merchant 0;merchant 0;fair 7;letter 0 to 1 of 1 at 1 late 5;"
            + "letter 1 to 2 of 2 at 39;";
        text = text.replace("39", "20");
        Counted x = Check.of(text);
        Check.tray(x, 0);
        judged(x, -1, 0, 0, 7);
        Check.due("perform", x.perform(0), 0);
        long[] forty = new long[40];
        java.util.Arrays.fill(forty, -1);
        Check.tray(x, 0, forty);
        judged(x, -1, 0, 3, 47);
        forty[39] = 5;
        Check.tray(x, 0, forty);
        judged(x, 39, 1, 3, 46);
        forty[20] = 1;
        Check.tray(x, 0, forty);
        judged(x, 20, 3, 1, 27);
        forty[1] = 0;
        Check.tray(x, 0, forty);
        judged(x, 1, 3, 0, 8);
        forty[0] = 2;
        Check.tray(x, 0, forty);
        judged(x, 0, 1, 0, 7);
        Check.due("nothing is done", x.count(6), 7);
        for (int what : new int[] {-1, 4, LEAST, GREATEST}) {
            Check.due("judge(0, " + what + ")", x.judge(0, what), -2);
            Check.due("judge(3, " + what + ")", x.judge(3, what), -2);
        }
        // a tray that can be behind one that can't
        x.numbers(1, 0, 0);
        Check.due("judge(1, 1)", x.judge(1, 1), 0);
        Check.due("judge(1, 0)", x.judge(1, 0), -1);
        // the second draw of a tray goes on from the first
        for (int seed = 0; seed < 40; seed++) {
            x = Check.of(HEAD + "merchant 0;merchant 0;letter 0 to 1 of 1 at 0 late 5;");
            x.seed(seed);
            Check.tray(x, 0, 2000, 2000, 2000, 0);
            int v = seed;
            int fair = 0;
            while (fair < 3 && draw(next(v)) % 10 < 5) {
                fair++;
                v = next(v);
            }
            judged(x, 3, fair == 3 ? 3 : 2, fair == 3 ? 0 : 1, 3);
            Check.due("x stays", x.seed(seed), seed);
            Check.due("perform", x.perform(0), 3);
            Check.due("broken", x.count(3), fair == 3 ? 0 : 1);
            Check.due("x", x.seed(0), fair == 3 ? v : next(v));
        }

        Check.says("They are done, till one can't be: how many. -2; -6.");
        x = Check.of(HEAD + "merchant 10;merchant 0;letter 0 to 1 of 4 at 0;letter 1 to 0 of 3 at 5;");
        Check.tray(x, 0, 0, 1, 1001, 1010, 0);
        judged(x, 2, 3, 0, 0);
        Check.due("perform", x.perform(0), 2);
        Check.cash(x, 9, 1);
        Check.due("both paid", x.count(5), 0);
        Check.due("as a whole", x.count(8), 1);
        Check.due("perform", x.perform(0), 0);
        Check.due("none is done", x.count(8), 1);
        // the one that can't be does nothing
        for (long v : new long[] {4, 0, 1, 2, 3, 100, 101, 121, 112, 104, 1010, 1003, 1030, 1011, 1090, 999}) {
            x = Check.of(HEAD + "merchant 5;merchant 0;merchant 0;merchant 0;letter 0 to 3 of 5 at 9;"
                + "letter 0 to 1 of 6 at 9;letter 2 to 1 of 1 at 9;letter 2 to 0 of 1 at 9;letter 3 to 1 of 1 at 0;");
            x.hold(1, false);
            Check.tray(x, 0, -1, v);
            long[] first = Whole.now(x);
            Check.due("perform of a fair and " + v, x.perform(0), 1);
            x.hold(1, false);
            long[] then = Whole.now(x);
            x.undo(2);
            x.hold(2, false);
            Whole.same("a fair alone", then, Whole.now(x));
            x.undo(1);
            Whole.same("none", Whole.now(x), first);
        }
        x = Check.of(HEAD + "merchant 10;merchant 0;");
        Check.tray(x, 0, 1001, 1010, 1001, 1010, -1);
        Check.due("all", x.perform(0), 5);
        Check.due("as a whole", x.count(8), 1);
    }

    // ---- years

    private static void years() {
        Check.says("A YEAR by a SEED (x is that): so many times (1 to 30)");
        Counted x = new Counted();
        for (int times : new int[] {0, -1, 31, LEAST, GREATEST}) Check.due("times " + times, x.year(0, times), -3);
        for (int seed = -30; seed < 30; seed++) {
            for (int times : new int[] {1, 2, 29, 30}) {
                year(seed, times, 1, false);
                year(seed, times, 2, false);
                year(seed, times, 6, false);
                year(seed, Math.min(times, 20), 2, true);
            }
        }

        Check.says("3 10 coppers are LENT by MERCHANT DRAW modulo MERCHANTS to MERCHANT DRAW modulo MERCHANTS;"
            + " as in a TRAY, if it can be (without letters 1 and 2, without MERCHANTS 3 is nothing, and no more "
            + "DRAWS).");
        for (int seed = -30; seed < 30; seed++) {
            for (int merchants = 0; merchants <= 6; merchants++) {
                x = Check.of(HEAD + "merchant 15;".repeat(merchants));
                x.seed(1);
                int v = next(seed);
                int sort = draw(v) % 4;
                int a = 0;
                int b = 0;
                if (sort == 3 && merchants > 0) {
                    v = next(v);
                    a = draw(v) % merchants;
                    v = next(v);
                    b = draw(v) % merchants;
                }
                boolean can = sort == 0 || sort == 3 && a != b;
                Check.due("year(" + seed + ", 1)", x.year(seed, 1), can ? 1 : 0);
                if (sort == 3 && can) Check.due("who lent", x.merchant(a, 0), 5);
                if (sort == 3 && can) Check.due("to whom", x.merchant(b, 0), 25);
                Check.due("x", x.seed(0), can ? v : 1);
            }
        }

        Check.says("2 letters DRAW modulo letters, DRAW modulo letters (told both below 10) are CANCELLED;");
        boolean[] drawn = new boolean[144];
        int unlike = 0;
        for (int seed = 0; unlike < 144 && seed < 1000000; seed++) {
            int one = next(seed);
            if (draw(one) % 4 != 2) continue;
            int two = next(one);
            int three = next(two);
            int a = draw(two) % 12;
            int b = draw(three) % 12;
            if (drawn[a * 12 + b]) continue;
            drawn[a * 12 + b] = true;
            unlike++;
            x = Check.of(twelve());
            x.seed(1);
            boolean can = a < 10 && b < 10 && a % 2 != b % 2;
            Check.due("year of " + a + " " + b, x.year(seed, 1), can ? 1 : 0);
            Check.due("can be undone", x.count(8), can ? 2 : 1);
            for (int l : new int[] {a, b}) {
                int left = can ? l + 1 - Math.min(a, b) - 1 : l + 1;
                Check.due("letter " + l, x.letter(l, 2), left);
            }
            Check.due("x", x.seed(0), can ? three : 1);
        }
        Check.due("pairs drawn", unlike, 144);

        Check.says("DRAW modulo 4: 0 a FAIR with MULES; 1 letter DRAW modulo letters is PAID;");
        for (int seed = -60; seed < 60; seed++) {
            x = Check.of(HEAD + "merchant 6;merchant 0;letter 0 to 1 of 1 at 0 late 5;letter 1 to 0 of 1 at 3;"
                + "letter 0 to 1 of 7 at 5;");
            int v = next(seed);
            int sort = draw(v) % 4;
            if (sort != 0 && sort != 1) continue;
            v = next(v);
            int second = draw(v);
            boolean can = sort == 0 || second % 3 == 0;
            Check.due("year(" + seed + ", 1)", x.year(seed, 1), can ? 1 : 0);
            Check.due("the fair", x.count(6), sort == 0 ? 1 : 0);
            boolean paid = sort == 0 ? second % 10 >= 5 : second % 3 == 0;
            Check.due("paid", x.letter(0, 4), paid ? 1 : 0);
            Check.due("x", x.seed(0), can ? v : 0);
        }

        Check.says("A YEAR: how many could be (0: nothing changes, x neither). -3: how many times.");
        int none = 0;
        while (draw(next(none)) % 4 == 0 || draw(next(next(none))) % 4 == 0
            || draw(next(next(next(none)))) % 4 != 0) none++;
        x = Check.of("fairs 1 moneys 1;");
        x.seed(8);
        Check.due("none of two", x.year(none, 2), 0);
        Check.due("can be undone", x.count(8), 1);
        Check.due("x", x.seed(8), 8);
        Check.due("one of three", x.year(none, 3), 1);
        Check.due("can be undone", x.count(8), 3);
        Check.due("x", x.seed(0), next(next(next(none))));
    }

    /** So many merchants, with a letter of 5 coppers at fair 20 or without letters. */
    private static void year(int seed, int times, int merchants, boolean letter) {
        String zeros = "merchant 0;".repeat(merchants - 1);
        Counted x = Check.of(HEAD + "merchant 20;" + zeros + (letter ? "letter 0 to 1 of 5 at 20;" : ""));
        int[] cash = new int[merchants];
        cash[0] = 20;
        boolean owed = letter;
        int fairs = 0;
        int done = 0;
        int v = seed;
        for (int i = 0; i < times; i++) {
            v = next(v);
            int sort = draw(v) % 4;
            if (sort == 0) {
                fairs++;
                done++;
                continue;
            }
            if (sort < 3 && !letter) continue;
            v = next(v);
            if (sort == 1 && owed && cash[0] >= 5) {
                cash[0] -= 5;
                cash[1] += 5;
                owed = false;
                done++;
            }
            if (sort == 1) continue;
            int a = draw(v) % merchants;
            v = next(v);
            int b = draw(v) % merchants;
            // a ring of one letter alone can't be
            if (sort == 2 || a == b || cash[a] < 10) continue;
            cash[a] -= 10;
            cash[b] += 10;
            done++;
        }
        Check.due("year(" + seed + ", " + times + ")", x.year(seed, times), done);
        Check.due("fairs", x.count(6), fairs);
        Check.cash(x, cash);
        Check.due("letters owed", x.count(5), owed ? 1 : 0);
        Check.due("as a whole", x.count(8), done > 0 ? 1 : 0);
        Check.due("x", x.seed(0), done > 0 ? v : 0);
    }

    // ---- trays

    private static void trays() {
        Check.says("TRAYS 0 to 3 are MISSING at first, or have 0 to 40 numbers of 8 bits (sort 0), 16 (1), 32 (2), "
            + "64 (3).");
        Counted x = new Counted();
        for (int tray : new int[] {-1, 0, 1, 2, 3, 4, LEAST, GREATEST}) {
            int code = tray >= 0 && tray <= 3 ? -6 : -2;
            Check.due("cancel", x.cancel(tray), code);
            Check.due("judge", x.judge(tray, 0), code);
            Check.due("perform", x.perform(tray), code);
            Check.due("missing", x.missing(tray), code);
            Check.due("look", x.look(tray), code);
            Check.due("put", x.put(tray, 0, 0), code);
            Check.due("lists", x.lists(tray), code);
        }
        for (int tray = 0; tray <= 3; tray++) {
            Check.due("numbers", x.numbers(tray, tray, 0), 0);
            Check.due("one with none isn't missing", x.judge(tray, 0), -1);
            for (int other = tray + 1; other <= 3; other++) Check.due("the others are", x.judge(other, 0), -6);
        }

        Check.says("A TRAY has n numbers of a sort, all 0 (in place of another one): 0. -2: no such TRAY, sort;"
            + " -3, and the TRAY stays: n is below 0 or above 40.");
        x = Check.of(HEAD + "merchant 9;merchant 9;letter 0 to 1 of 1 at 0;");
        for (int sort = 0; sort <= 3; sort++) {
            for (int n : new int[] {0, 1, 39, 40}) {
                Check.due("numbers", x.numbers(2, sort, n), 0);
                Check.due("put behind", x.put(2, n, 1), -7);
                if (n > 0) Check.due("put at the last", x.put(2, n - 1, 1), 1);
            }
            for (int n : new int[] {-1, 41, LEAST, GREATEST}) {
                Check.due("numbers of " + n, x.numbers(2, sort, n), -3);
                Check.due("stays", x.put(2, 39, 7), 7);
            }
        }
        for (int sort : new int[] {-1, 4, LEAST, GREATEST}) Check.due("sort " + sort, x.numbers(2, sort, 1), -2);
        for (int tray : new int[] {-1, 4, LEAST, GREATEST}) Check.due("tray " + tray, x.numbers(tray, 0, 1), -2);
        Check.due("stays", x.put(2, 39, 1L << 40), 1L << 40);
        // two zeros are letter 0 twice: paid, and paid already
        Check.due("in place of another one", x.numbers(2, 0, 2), 0);
        Check.due("all 0", x.judge(2, 0), 1);
        Check.due("all 0", x.judge(2, 1), 2);
        Check.due("its sort", x.put(2, 0, 1L << 40), 0);
        x.put(2, 0, 5);
        x.put(2, 1, 5);
        x.numbers(2, 3, 40);
        Check.due("all 0", x.judge(2, 0), 1);

        Check.says("Number i of a TRAY is v, cut to its sort: as it is there. -2: no such TRAY; -6; -7.");
        for (int sort = 0; sort <= 3; sort++) {
            x = new Counted();
            x.numbers(sort, sort, 3);
            long half = 1L << ((8 << sort) - 1);
            Check.due("the greatest", x.put(sort, 0, half - 1), half - 1);
            Check.due("one more", x.put(sort, 0, half), -half);
            Check.due("the least", x.put(sort, 2, -half), -half);
            Check.due("one less", x.put(sort, 2, -half - 1), half - 1);
            Check.due("round", x.put(sort, 1, half * 2), 0);
            Check.due("round", x.put(sort, 1, half * 2 - 1), -1);
            Check.due("NONE", x.put(sort, 1, -1), -1);
            Check.due("the greatest there is", x.put(sort, 1, Long.MAX_VALUE), sort == 3 ? Long.MAX_VALUE : -1);
            Check.due("the least there is", x.put(sort, 1, Long.MIN_VALUE), sort == 3 ? Long.MIN_VALUE : 0);
            for (int i : new int[] {-1, 3, 40, LEAST, GREATEST}) Check.due("number " + i, x.put(sort, i, 0), -7);
        }
        x = new Counted();
        x.numbers(0, 3, 0);
        Check.due("of none", x.put(0, 0, 0), -7);
        x.numbers(0, 3, 2);
        x.put(0, 0, -1);
        x.put(0, 1, 2000);
        Check.due("each its own", x.judge(0, 3), 2);

        Check.says("CASH of each MERCHANT behind this FAIR comes into a TRAY, as far as it has places: how many. -2;"
            + " -6.");
        String text = HEAD + "merchant 10;merchant 20;merchant 7;letter 0 to 1 of 8 at 0 late 9;"
            + "letter 2 to 0 of 7 at 0;letter 1 to 0 of 1 at 1;letter 0 to 1 of 9 at 0;";
        for (int places = 0; places <= 5; places++) {
            x = Check.of(text);
            x.numbers(1, 3, places);
            for (int i = 0; i < places; i++) x.put(1, i, -1);
            Check.due("lists", x.lists(1), Math.min(places, 3));
            if (places == 3) Check.due("0 has 0, 1 has 37, 2 has 0: all came", x.missing(1), 0);
            if (places == 3) Check.due("so one more letter of no matter would explain it", seenWithOne(x), 16);
            Check.due("nothing is held", x.count(6), 0);
            if (places > 0) Check.due("letter 0 is paid, there is no letter 37", x.judge(1, 0), places == 1 ? -1 : 1);
            if (places < 3) continue;
            x.put(1, 1, 1);
            x.put(1, 2, 2);
            Check.due("three letters are paid", x.judge(1, 0), -1);
            Check.due("the other numbers stay: fairs", x.judge(1, 3), places - 3);
        }
        x = Check.of(HEAD + "merchant 511;merchant 128;merchant 5;");
        x.numbers(0, 0, 3);
        Check.due("cut to its sort: lists", x.lists(0), 3);
        Check.due("511 is -1: a fair", x.judge(0, 3), 1);
        Check.due("128 is -128", x.judge(0, 1), 1);
        x = new Counted();
        x.numbers(0, 0, 3);
        Check.due("without merchants", x.lists(0), 0);
    }

    /** A letter that nobody feels the want of, since it breaks who owes it. */
    private static int seenWithOne(Counted x) {
        x.write(2, 1, 999, 0);
        int bits = x.missing(1);
        x.undo(1);
        return bits;
    }

    // ---- images, counts

    private static void images() {
        Check.says("IMAGES 0 to 1 (fairs() leaves them): THE FAIRS and what a call could bring back by UNDOING;"
            + " nothing can be UNDONE behind (none at first).");
        Counted x = new Counted();
        for (int i : new int[] {-1, 2, LEAST, GREATEST}) {
            Check.due("image", x.image(i), -2);
            Check.due("restore", x.restore(i), -2);
        }
        Check.due("none", x.restore(0), -5);
        Check.due("none", x.restore(1), -5);
        Check.due("image", x.image(1), 0);
        Check.due("the other one", x.restore(0), -5);
        Check.due("image", x.image(0), 0);
        Check.tell(x, "fairs 3 moneys 2;worth : money + 40;time : who = 0;merchant 5;merchant 0;merchant 8;"
            + "letter 0 to 1 of 6 at 0;letter 1 to 2 of 6 at 0;letter 2 to 0 of 3 at 0;"
            + "letter 2 to 1 of 1 at 9 late 4;fair 11;");
        x.seed(77);
        x.write(2, 0, 8, 8);
        x.hold(2, false);
        long[] whole = Whole.now(x);
        x.feed(1, 2, 3, 4, 5);
        Check.due("over another one", x.image(0), 0);
        Check.due("making one leaves what can be undone", x.count(8), 3);
        x.undo(3);
        x.seed(1);
        x.pay(3);
        Check.tray(x, 3, 3, 3);
        Check.due("restore", x.restore(0), 0);
        Whole.same("restored", Whole.now(x), whole);
        Check.due("nothing can be undone", x.undo(1), -3);
        Check.due("x", x.seed(5), 77);
        Check.due("the tape stays", x.count(9), 20);
        Check.due("trays stay", x.put(3, 1, 1L << 50), 1L << 50);
        Check.due("the law worth", x.worth(1, 0), 41);
        x.fairs(0);
        Check.due("a fault leaves them", x.restore(0), 0);
        Check.due("the fault stays", x.fault(0), 2);
        Check.tell(x, HEAD);
        Check.due("again and again", x.restore(0), 0);
        Whole.same("restored", Whole.now(x), whole);
        Check.due("as of no text", x.restore(1), 0);
        int[] counts = {1, 1, 0, 0, 0, 0, 0, 0, 0, 0, 0};
        for (int i = 0; i < counts.length; i++) Check.due("count(" + i + ")", x.count(i), counts[i]);
        Check.due("the fault is of the latest text", x.fault(0), 0);
        Check.due("the law time is gone", x.worth(0, 0), 10);

        Check.says("0 FAIRS a year, 1 MONEYS, 2 MERCHANTS, 3 BROKEN ones, as bits, 4 letters, 5 those owed, as bits, "
            + "6 the FAIR, 7 CASH of all, 8 calls that can be UNDONE, 9 bytes on THE TAPE, 10 LINES. NONE for others.");
        x = Check.of("fairs 6 moneys 4;" + "merchant 999;".repeat(5) + "merchant 0;" + "letter 5 to 0 of 999 at 0;"
            + "letter 0 to 1 of 1 at 20;".repeat(10) + "letter 1 to 2 of 3 at 0;fair 990;");
        int[] first = {6, 4, 6, 0, 12, 4095, 990, 4995, 0, 0, 20};
        for (int i = 0; i < first.length; i++) Check.due("count(" + i + ")", x.count(i), first[i]);
        x.hold(1, false);
        x.feed(0, 0, 0, 0, 0);
        int[] then = {6, 4, 6, 32, 12, 2046, 991, 4995, 1, 20, 20};
        for (int i = 0; i < then.length; i++) Check.due("count(" + i + ")", x.count(i), then[i]);
        for (int i : new int[] {-1, 11, LEAST, GREATEST}) Check.due("count(" + i + ")", x.count(i), -1);
    }

    public static void main(String[] args) {
        numbers();
        reasons();
        judging();
        years();
        trays();
        images();
        Check.close("TrayBoundsTest");
    }
}
