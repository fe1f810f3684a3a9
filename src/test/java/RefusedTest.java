import java.util.ArrayList;
import java.util.Arrays;
import java.util.List;

/**
 * Refused calls: each code of each call, the one told first where there are several reasons, and that nothing changes;
 * nor does it by calls that only ask.
 */
public final class RefusedTest {
    private static final String HEAD = "fairs 1 moneys 1;";
    private static final int LEAST = Integer.MIN_VALUE;
    private static final int GREATEST = Integer.MAX_VALUE;

    interface Call {
        long on(Counted x);
    }

    /** How an object is made that the calls are tried on. */
    interface Made {
        Counted one();
    }

    // ---- what the calls are tried on

    /**
     * Four merchants, 2 broken; so many letters, 0 paid, 1 and 2 void, 3 to 6 owed by merchants of 9 and 9 and 60
     * coppers; trays: 0 with deeds, 1 seen, 2 no ring, 3 missing; image 1 made, 0 not; one call to undo; a faulty text
     * read last; 20 bytes of tape.
     */
    private static Counted made(int letters) {
        StringBuilder s = new StringBuilder("fairs 3 moneys 2;worth : 5 + fair + money;time : who = 3;fair 4;"
            + "merchant 29;merchant 9;merchant 0;merchant 40;letter 0 to 3 of 20 at 0;letter 1 to 2 of 4 at 1;"
            + "letter 2 to 0 of 1 at 0;letter 0 to 1 of 9 at 1;letter 1 to 0 of 10 at 1;"
            + "letter 3 to 1 of 70 at 1 late 5;letter 1 to 3 of 5 at 4 late 3;");
        for (int l = 7; l < letters; l++) s.append("letter 0 to 1 of 1 at 9;");
        Counted x = Check.of(s.toString());
        Check.tell(x, "fairs 1 moneys 1 moneys");
        x.image(1);
        Check.tray(x, 0, 3, 1001, 1, 0);
        x.numbers(1, 0, 4);
        Check.due("lists", x.lists(1), 4);
        x.put(1, 1, -1);
        x.numbers(2, 1, 3);
        x.put(2, 0, 3);
        x.put(2, 1, 4);
        x.put(2, 2, 4);
        Check.due("2 breaks", x.hold(1, false), 1);
        Check.lay(x, "fairs 1 moneys 1;fai");
        return x;
    }

    private static Counted eleven() {
        return made(11);
    }

    private static Counted full() {
        return made(12);
    }

    /** The tape is full, all else as with eleven letters. */
    private static Counted taped() {
        Counted x = made(8);
        for (int i = 0; i < 44; i++) x.feed(0x20202020, 0x20202020, 0x20202020, 0x20202020, 0x20202020);
        return x;
    }

    /** Without merchants, letters, images, trays, a text. */
    private static Counted empty() {
        return new Counted();
    }

    /** All that can be seen, the last of it by calls that change much. */
    private static long[] all(Counted x) {
        List<long[]> parts = new ArrayList<>();
        parts.add(Whole.now(x));
        parts.add(new long[] {x.count(8), x.count(9), x.fault(0), x.fault(1), x.due(8), x.broken(3),
            x.worth(x.count(1) - 1, 1)});
        for (int tray = 0; tray < 4; tray++) {
            parts.add(new long[] {x.judge(tray, 0), x.judge(tray, 1), x.judge(tray, 2), x.judge(tray, 3),
                x.missing(tray), x.look(tray),
                x.cancel(tray)});
        }
        long x0 = x.seed(1);
        x.undo(1);
        parts.add(new long[] {x0});
        for (int i = x.count(8); i > 0; i--) {
            parts.add(new long[] {x.undo(1)});
            parts.add(Whole.now(x));
        }
        // with all undone the ring of tray 2 and the deeds of tray 0 are others than with a fair held
        parts.add(new long[] {x.perform(0), x.seed(2), x.perform(2), x.cancel(2), x.count(8)});
        for (int i = 0; i < 2; i++) {
            parts.add(new long[] {x.restore(i)});
            parts.add(Whole.now(x));
        }
        for (int tray = 0; tray < 4; tray++) {
            parts.add(new long[] {x.put(tray, 0, 1L << 60), x.put(tray, 2, 1L << 20), x.put(tray, 3, 300),
                x.put(tray, 4, 0)});
        }
        int bytes = x.count(9);
        parts.add(new long[] {x.fairs(bytes), x.fault(0), x.fault(1), x.count(9)});
        int length = 0;
        for (long[] p : parts) length += p.length;
        long[] whole = new long[length];
        int at = 0;
        for (long[] p : parts) for (long v : p) whole[at++] = v;
        return whole;
    }

    private static void nothingChanges(String what, Made made, Call call, long due) {
        Counted x = made.one();
        Check.due(what, call.on(x), due);
        long[] got = all(x);
        long[] want = all(made.one());
        Check.due(what + " changes something: is all as it was? It", Arrays.equals(got, want) ? 1 : 0, 1);
    }

    private static void refused(String what, int due, Call call) {
        nothingChanges(what, RefusedTest::eleven, call, due);
    }

    private static void full(String what, int due, Call call) {
        nothingChanges(what + " with 12 letters", RefusedTest::full, call, due);
    }

    private static void empty(String what, long due, Call call) {
        nothingChanges(what + " of nothing", RefusedTest::empty, call, due);
    }

    // ---- the calls, promise by promise

    private static void fairs() {
        Check.says("-5: it would have more than 900.");
        nothingChanges("feed", RefusedTest::taped, x -> x.feed(0x78787878, 0x78787878, 0x78787878, 0x78787878,
            0x78787878), -5);

        Check.says("-3: n is below 0 or above what there is (THE TAPE stays); -30 less the FAULT.");
        for (int n : new int[] {-1, 21, LEAST, GREATEST}) refused("fairs(" + n + ")", -3, x -> x.fairs(n));
        empty("fairs(1)", -3, x -> x.fairs(1));
        // with a fault the tape is empty and the fault is told; all else stays
        int[] cut = {-32, -32, -32};
        for (int i = 0; i < cut.length; i++) {
            int n = new int[] {0, 8, 16}[i];
            Counted x = eleven();
            Counted y = eleven();
            long[] before = Whole.now(y);
            Check.due("fairs(" + n + ")", x.fairs(n), cut[i]);
            Whole.same("a fault", Whole.now(x), before);
            Check.due("can be undone", x.count(8), 1);
            Check.due("the tape is empty", x.count(9), 0);
            Check.due("x", x.seed(0), 0);
            Check.due("undone", x.undo(2), 0);
            Check.due("image", x.restore(0), -5);
            Check.due("image", x.restore(1), 0);
            Check.due("tray", x.judge(3, 0), -6);
            Check.due("tray", x.put(1, 3, 300), 44);
        }

        Check.says("3: all it is owed by such. -2.");
        for (int m : new int[] {-1, 4, LEAST, GREATEST}) refused("merchant(" + m + ", 0)", -2, x -> x.merchant(m, 0));
        for (int what : new int[] {-1, 4, LEAST, GREATEST}) {
            refused("merchant(0, " + what + ")", -2, x -> x.merchant(0, what));
        }
        empty("merchant(0, 0)", -2, x -> x.merchant(0, 0));
        Check.says("5: how likely late. -2.");
        for (int l : new int[] {-1, 11, 12, LEAST, GREATEST}) refused("letter(" + l + ", 0)", -2, x -> x.letter(l, 0));
        full("letter(12, 0)", -2, x -> x.letter(12, 0));
        for (int what : new int[] {-1, 6, LEAST, GREATEST}) {
            refused("letter(0, " + what + ")", -2, x -> x.letter(0, what));
        }
        empty("letter(0, 0)", -2, x -> x.letter(0, 0));
        Check.says("What a MONEY is WORTH in n FAIRS (0 to 999). -2; -3.");
        for (int m : new int[] {-1, 2, LEAST, GREATEST}) {
            refused("worth(" + m + ", 0)", -2, x -> x.worth(m, 0));
            refused("worth(" + m + ", -1)", -2, x -> x.worth(m, -1));
        }
        for (int n : new int[] {-1, 1000, LEAST, GREATEST}) refused("worth(0, " + n + ")", -3, x -> x.worth(0, n));
    }

    private static void deeds() {
        Check.says("A letter is WRITTEN: its number. -2: a MERCHANT, both one;"
            + " -3: how much (1 to 999), in how many FAIRS (0 to 20); -4: there are 12; -5: one is BROKEN.");
        for (int[] a : new int[][] {{-1, 0}, {4, 0}, {0, -1}, {0, 4}, {LEAST, 0}, {0, GREATEST}, {0, 0}, {3, 3},
            {2, 2}, {2, 4}, {-1, 2}}) {
            for (int[] b : new int[][] {{1, 0}, {0, 0}, {1, 21}, {1000, -1}}) {
                refused("write to " + a[1], -2, x -> x.write(a[0], a[1], b[0], b[1]));
                full("write to " + a[1], -2, x -> x.write(a[0], a[1], b[0], b[1]));
            }
        }
        for (int[] b : new int[][] {{0, 0}, {1000, 0}, {1, -1}, {1, 21}, {LEAST, GREATEST}, {-1, 0}}) {
            for (int[] a : new int[][] {{0, 1}, {2, 1}, {1, 2}}) {
                refused("write of " + b[0], -3, x -> x.write(a[0], a[1], b[0], b[1]));
                full("write of " + b[0], -3, x -> x.write(a[0], a[1], b[0], b[1]));
            }
        }
        for (int[] a : new int[][] {{0, 1}, {2, 1}, {1, 2}}) full("write", -4, x -> x.write(a[0], a[1], 1, 0));
        for (int[] a : new int[][] {{2, 1}, {1, 2}}) {
            refused("write of one broken", -5, x -> x.write(a[0], a[1], 999, 20));
        }
        empty("write", -2, x -> x.write(0, 1, 1, 0));

        Check.says("A letter is PAID: how much it was of. -11 to -13.");
        for (int l : new int[] {-1, 11, 12, LEAST, GREATEST}) refused("pay(" + l + ")", -11, x -> x.pay(l));
        for (int l : new int[] {0, 1, 2}) refused("pay(" + l + ")", -12, x -> x.pay(l));
        for (int l : new int[] {4, 5}) refused("pay(" + l + ")", -13, x -> x.pay(l));
        // letter 0 is of more than 0 has now: that it is paid comes first
        refused("pay(0), of 20 coppers", -12, x -> x.pay(0));
        empty("pay(0)", -11, x -> x.pay(0));

        Check.says("n coppers (1 to 999) are LENT: CASH of who lent. -11 (n, too) to -13.");
        for (int[] a : new int[][] {{-1, 0, 1}, {4, 0, 1}, {0, -1, 1}, {0, 4, 1}, {0, 0, 1}, {2, 2, 1}, {2, 2, 999},
            {0, 1, 0}, {0, 1, 1000}, {0, 1, LEAST},
            {0, 1, GREATEST}, {2, 0, 0}, {0, 2, 1000}, {4, 2, 999}, {1, 0, -1}}) {
            refused("lend of " + a[2] + " from " + a[0] + " to " + a[1], -11, x -> x.lend(a[0], a[1], a[2]));
        }
        for (int[] a : new int[][] {{2, 0, 1}, {0, 2, 1}, {2, 1, 999}, {1, 2, 999}}) {
            refused("lend of one broken", -12, x -> x.lend(a[0], a[1], a[2]));
        }
        for (int[] a : new int[][] {{0, 1, 10}, {1, 3, 10}, {3, 0, 61}, {3, 1, 999}}) {
            refused("lend too much", -13, x -> x.lend(a[0], a[1], a[2]));
        }
        empty("lend", -11, x -> x.lend(0, 1, 1));

        Check.says("The RING of a TRAY is CANCELLED: by how much each letter is less. -2: the TRAY; -6;"
            + " -11: not 2 to 6 numbers, one is no letter; -12 (a letter told twice, too).");
        for (int tray : new int[] {-1, 4, LEAST, GREATEST}) refused("cancel(" + tray + ")", -2, x -> x.cancel(tray));
        refused("cancel(3)", -6, x -> x.cancel(3));
        refused("cancel(2)", -12, x -> x.cancel(2));
        refused("cancel(0)", -11, x -> x.cancel(0));
        empty("cancel(0)", -6, x -> x.cancel(0));
        long[][] no = {{}, {3}, {3, 4, 3, 4, 3, 4, 3}, {3, 11}, {-1, 3}, {3, 3, 99}, {0, 11}, {3, 4, 1L << 32},
            {1, 1, 1, 1, 1, 1, 1}};
        for (long[] ring : no) ring("of no letters", -11, ring);
        long[][] none = {{3, 3}, {3, 4, 3, 4}, {0, 3}, {3, 0}, {1, 2}, {3, 5}, {3, 4, 6}, {4, 6}, {3, 6, 5}, {0, 0},
            {3, 4, 4, 3}};
        for (long[] ring : none) ring("of no ring", -12, ring);

        Check.says("n FAIRS (1 to 20) are held, with MULES, or without: how many BROKE. -3.");
        for (int n : new int[] {0, -1, 21, LEAST, GREATEST}) {
            refused("hold(" + n + ", true)", -3, x -> x.hold(n, true));
            refused("hold(" + n + ", false)", -3, x -> x.hold(n, false));
        }
        Check.says("n calls (1 to 10) are UNDONE: how many still can be. -3: n, more than can be.");
        for (int n : new int[] {0, -1, 2, 10, 11, LEAST, GREATEST}) refused("undo(" + n + ")", -3, x -> x.undo(n));
        empty("undo(1)", -3, x -> x.undo(1));

        Check.says("3: the FAIR then. -2: the TRAY, what; -6.");
        for (int tray : new int[] {-1, 4, LEAST, GREATEST}) {
            refused("judge(" + tray + ", 0)", -2, x -> x.judge(tray, 0));
        }
        for (int what : new int[] {-1, 4, LEAST, GREATEST}) {
            refused("judge(0, " + what + ")", -2, x -> x.judge(0, what));
            refused("judge of a missing one", -2, x -> x.judge(3, what));
        }
        refused("judge(3, 0)", -6, x -> x.judge(3, 0));
        Check.says("They are done, till one can't be: how many. -2; -6.");
        for (int tray : new int[] {-1, 4, LEAST, GREATEST}) refused("perform(" + tray + ")", -2, x -> x.perform(tray));
        refused("perform(3)", -6, x -> x.perform(3));
        Check.says("A YEAR: how many could be (0: nothing changes, x neither). -3: how many times.");
        for (int n : new int[] {0, -1, 31, LEAST, GREATEST}) refused("year(5, " + n + ")", -3, x -> x.year(5, n));
    }

    private static void ring(String what, int due, long... letters) {
        nothingChanges("cancel " + what + " " + Arrays.toString(letters), () -> {
            Counted x = eleven();
            Check.tray(x, 0, letters);
            return x;
        }, x -> x.cancel(0), due);
    }

    private static void ahead() {
        Check.says("Letters DUE in n FAIRS (0 to 30) as they are now, as bits. -3.");
        for (int n : new int[] {-1, 31, LEAST, GREATEST}) refused("due(" + n + ")", -3, x -> x.due(n));
        Check.says("NET of a MERCHANT by these (0: it is BROKEN). -99000002; -99000003: n (0 to 30).");
        for (int m : new int[] {-1, 4, LEAST, GREATEST}) {
            for (int n : new int[] {0, -1, 31, GREATEST}) {
                refused("net(" + m + ", " + n + ")", -99000002, x -> x.net(m, n));
            }
        }
        for (int n : new int[] {-1, 31, LEAST, GREATEST}) {
            refused("net(0, " + n + ")", -99000003, x -> x.net(0, n));
            refused("net(2, " + n + "), broken", -99000003, x -> x.net(2, n));
        }
        Check.says("2: CANCELLED. -2: what; -3.");
        for (int what : new int[] {-1, 3, LEAST, GREATEST}) {
            for (int n : new int[] {0, -1, 31}) refused("coin(" + n + ", " + what + ")", -2, x -> x.coin(n, what));
        }
        for (int n : new int[] {-1, 31, LEAST, GREATEST}) refused("coin(" + n + ", 2)", -3, x -> x.coin(n, 2));
        Check.says("CASH of a MERCHANT behind n FAIRS (0 to 30). -2; -3.");
        for (int m : new int[] {-1, 4, LEAST, GREATEST}) {
            for (int n : new int[] {0, -1, 31}) refused("cashIn(" + m + ", " + n + ")", -2, x -> x.cashIn(m, n));
        }
        for (int n : new int[] {-1, 31, LEAST, GREATEST}) refused("cashIn(0, " + n + ")", -3, x -> x.cashIn(0, n));
        Check.says("Behind how many FAIRS (1 to 30) it is BROKEN first (0: it is). NONE: not by then; -2.");
        for (int m : new int[] {-1, 4, LEAST, GREATEST}) refused("breaksIn(" + m + ")", -2, x -> x.breaksIn(m));
        Check.says("Who is BROKEN behind n FAIRS (0 to 30), as bits. -3.");
        for (int n : new int[] {-1, 31, LEAST, GREATEST}) refused("broken(" + n + ")", -3, x -> x.broken(n));
        Check.says("and doesn't as it is, as bits. -2; -3; -5: it is BROKEN.");
        for (int m : new int[] {-1, 4, LEAST, GREATEST}) {
            for (int n : new int[] {1, 0, 31}) {
                refused("chain(" + m + ", " + n + ")", -2, x -> x.chain(m, n));
                refused("saves(" + m + ", " + n + ")", -2, x -> x.saves(m, n));
            }
        }
        for (int m : new int[] {0, 2}) {
            for (int n : new int[] {0, -1, 31, LEAST, GREATEST}) {
                refused("chain(" + m + ", " + n + ")", -3, x -> x.chain(m, n));
                refused("saves(" + m + ", " + n + ")", -3, x -> x.saves(m, n));
            }
        }
        refused("chain(2, 30)", -5, x -> x.chain(2, 30));
        refused("saves(2, 30)", -5, x -> x.saves(2, 30));
        Check.says("the first. NONE: all are of none; -3.");
        for (int n : new int[] {0, -1, 31, LEAST, GREATEST}) {
            refused("pillar(" + n + ")", -3, x -> x.pillar(n));
            empty("pillar(" + n + "), ahead of NONE", -3, x -> x.pillar(n));
            refused("favour(1, " + n + ")", -3, x -> x.favour(1, n));
            empty("favour(1, " + n + "), ahead of NONE", -3, x -> x.favour(1, n));
        }
        for (int sum : new int[] {0, -1, 1000, LEAST, GREATEST}) {
            refused("favour(" + sum + ", 1)", -3, x -> x.favour(sum, 1));
        }
    }

    private static void here() {
        Check.says("(NONE: not so many). NONE: there is none; -2: what (10 to 15).");
        for (int what : new int[] {-1, 2, 9, 16, LEAST, GREATEST}) {
            refused("ring(" + what + ")", -2, x -> x.ring(what));
            empty("ring(" + what + "), ahead of NONE", -2, x -> x.ring(what));
        }
        Check.says("-99000002: no such letter, it isn't DUE here.");
        for (int l : new int[] {-1, 0, 1, 6, 7, 11, 12, LEAST, GREATEST}) {
            refused("hangs(" + l + ")", -99000002, x -> x.hangs(l));
        }
        empty("hangs(0)", -99000002, x -> x.hangs(0));
        Check.says("ODDS that a MERCHANT BREAKS here. -2; -5: it is BROKEN.");
        for (int m : new int[] {-1, 4, LEAST, GREATEST}) refused("danger(" + m + ")", -2, x -> x.danger(m));
        refused("danger(2)", -5, x -> x.danger(2));
        Check.says("(0: this one; NONE: not so many). -2: the MONEY, what (10 to 19); -3.");
        for (int money : new int[] {-1, 2, LEAST, GREATEST}) {
            refused("changing(" + money + ")", -2, x -> x.changing(money, 1, 0, 0));
            refused("changing(" + money + ") of 0 over 10", -2, x -> x.changing(money, 0, 10, 0));
        }
        for (int what : new int[] {-1, 1, 9, 20, LEAST, GREATEST}) {
            refused("changing .. " + what, -2, x -> x.changing(0, 1, 0, what));
            refused("changing of 0 over 10 .. " + what, -2, x -> x.changing(0, 0, 10, what));
        }
        for (int coins : new int[] {0, -1, 1000, LEAST, GREATEST}) {
            refused("changing of " + coins, -3, x -> x.changing(0, coins, 0, 19));
        }
        for (int n : new int[] {-1, 10, LEAST, GREATEST}) {
            refused("changing over " + n, -3, x -> x.changing(1, 1, n, 19));
        }
        Check.says("WORTH then, by WORTH now, in 10,000, cut. -2; -3.");
        for (int money : new int[] {-1, 2, LEAST, GREATEST}) {
            for (int n : new int[] {0, -1, 100}) {
                refused("interest(" + money + ", " + n + ")", -2, x -> x.interest(money, n));
            }
        }
        for (int n : new int[] {-1, 100, LEAST, GREATEST}) {
            refused("interest(0, " + n + ")", -3, x -> x.interest(0, n));
            refused("dearest(" + n + ")", -3, x -> x.dearest(n));
        }
        Check.says("SEEN: letters, as bits. -2: the TRAY; -6; -4: not as many numbers as MERCHANTS.");
        for (int tray : new int[] {-1, 4, LEAST, GREATEST}) {
            refused("missing(" + tray + ")", -2, x -> x.missing(tray));
            refused("look(" + tray + ")", -2, x -> x.look(tray));
        }
        refused("missing(3)", -6, x -> x.missing(3));
        refused("look(3)", -6, x -> x.look(3));
        refused("missing(2)", -4, x -> x.missing(2));
        refused("look(2)", -4, x -> x.look(2));
        empty("missing(0)", -6, x -> x.missing(0));
        empty("look(0), ahead of NONE", -6, x -> x.look(0));
        nothingChanges("look, though none is due", () -> {
            Counted x = new Counted();
            x.numbers(0, 0, 1);
            return x;
        }, x -> x.look(0), -4);
    }

    private static void trays() {
        Check.says("-2: no such TRAY, sort; -3, and the TRAY stays: n is below 0 or above 40.");
        for (int bad : new int[] {-1, 4, LEAST, GREATEST}) {
            for (int n : new int[] {0, 40, -1, 41}) {
                refused("numbers(" + bad + ", 0, " + n + ")", -2, x -> x.numbers(bad, 0, n));
                refused("numbers(0, " + bad + ", " + n + ")", -2, x -> x.numbers(0, bad, n));
                refused("numbers(3, " + bad + ", " + n + ")", -2, x -> x.numbers(3, bad, n));
            }
        }
        for (int n : new int[] {-1, 41, LEAST, GREATEST}) {
            for (int tray = 0; tray < 4; tray++) {
                int t = tray;
                refused("numbers(" + t + ", 3, " + n + ")", -3, x -> x.numbers(t, 3, n));
            }
        }
        Check.says("Number i of a TRAY is v, cut to its sort: as it is there. -2: no such TRAY; -6; -7.");
        for (int tray : new int[] {-1, 4, LEAST, GREATEST}) {
            for (int i : new int[] {0, -1, 40}) refused("put(" + tray + ", " + i + ")", -2, x -> x.put(tray, i, 9));
        }
        for (int i : new int[] {0, -1, 40}) refused("put(3, " + i + ")", -6, x -> x.put(3, i, 9));
        for (int i : new int[] {-1, 4, 39, 40, LEAST, GREATEST}) refused("put(0, " + i + ")", -7, x -> x.put(0, i, 9));
        Check.says("as far as it has places: how many. -2; -6.");
        for (int tray : new int[] {-1, 4, LEAST, GREATEST}) refused("lists(" + tray + ")", -2, x -> x.lists(tray));
        refused("lists(3)", -6, x -> x.lists(3));
        Check.says("An IMAGE is made: 0. -2.");
        for (int i : new int[] {-1, 2, LEAST, GREATEST}) refused("image(" + i + ")", -2, x -> x.image(i));
        Check.says("All that is in an IMAGE is as it was: 0. -2; -5: none was made.");
        for (int i : new int[] {-1, 2, LEAST, GREATEST}) refused("restore(" + i + ")", -2, x -> x.restore(i));
        refused("restore(0)", -5, x -> x.restore(0));
        empty("restore(1)", -5, x -> x.restore(1));
        Check.says("10 LINES. NONE for others.");
        for (int what : new int[] {-1, 11, LEAST, GREATEST}) {
            refused("count(" + what + ")", -1, x -> x.count(what));
            refused("fault(" + what + ")", -1, x -> x.fault(what));
        }
    }

    private static void asking() {
        Check.says("Refused calls answer by a code and change nothing");
        List<Call> asks = new ArrayList<>();
        for (int i = 0; i < 4; i++) {
            int k = i;
            asks.add(x -> x.merchant(k, k));
            asks.add(x -> x.letter(k + 3, k));
            asks.add(x -> x.worth(k % 2, k * 333));
            asks.add(x -> x.due(k * 10));
            asks.add(x -> x.net(k, k));
            asks.add(x -> x.coin(k, k % 3));
            asks.add(x -> x.cashIn(k, k * 10));
            asks.add(x -> x.breaksIn(k));
            asks.add(x -> x.broken(k * 10));
            asks.add(x -> x.chain(k == 2 ? 3 : k, 30));
            asks.add(x -> x.pillar(k + 1));
            asks.add(x -> x.saves(k == 2 ? 3 : k, k + 1));
            asks.add(x -> x.favour(k * 100 + 1, k + 1));
            asks.add(x -> x.ring(k < 2 ? k : k + 8));
            asks.add(x -> x.hangs(k % 3 + 3));
            asks.add(x -> x.danger(k == 2 ? 3 : k));
            asks.add(x -> x.changing(k % 2, 9, k * 3, k == 0 ? 0 : 10 + k));
            asks.add(x -> x.interest(k % 2, k * 33));
            asks.add(x -> x.dearest(k * 33));
            asks.add(x -> x.judge(0, k));
            asks.add(x -> x.count(k * 3));
            asks.add(x -> x.fault(k));
        }
        asks.add(x -> x.heaviest());
        asks.add(x -> x.rings());
        asks.add(x -> x.calm());
        asks.add(x -> x.vital());
        asks.add(x -> x.missing(1));
        asks.add(x -> x.look(1));
        // letters 0 to 2 are paid or void
        int seed = 0;
        while (draw(next(seed)) % 4 != 1 || draw(next(next(seed))) % 11 > 2) seed++;
        int none = seed;
        asks.add(x -> x.year(none, 1));
        for (int i = 0; i < asks.size(); i++) {
            Call call = asks.get(i);
            Counted first = eleven();
            long answer = call.on(first);
            Check.due("asked again, " + i, call.on(first), answer);
            nothingChanges("asking, " + i, RefusedTest::eleven, call, answer);
        }
    }

    private static void none() {
        Check.says("They are done, till one can't be: how many.");
        for (long v : new long[] {0, 1, 4, 11, 100, 101, 135, 1020, 1022, 1044, 999}) {
            nothingChanges("perform of " + v, () -> {
                Counted x = eleven();
                Check.tray(x, 0, v, -1, 3);
                return x;
            }, x -> x.perform(0), 0);
        }
    }

    private static int next(int x) {
        return 1103515245 * x + 12345;
    }

    private static int draw(int x) {
        return x >>> 16;
    }

    /** Each call with all at once that it can be refused for, from what it tells first on. */
    private static void order() {
        Check.says("(Of several that which the call tells first; all these ahead of NONE.)");
        full("write of one that isn't", -2, x -> x.write(2, 4, 0, 21));
        full("write of too much", -3, x -> x.write(2, 1, 0, 21));
        full("write by one broken", -4, x -> x.write(2, 1, 1, 0));
        refused("write by one broken", -5, x -> x.write(2, 1, 1, 0));
        refused("lend nothing to a broken one", -11, x -> x.lend(1, 2, 0));
        refused("lend too much to a broken one", -12, x -> x.lend(1, 2, 999));
        ring("of one twice and no letter", -11, 3, 3, 11);
        ring("of one twice seven times", -11, 3, 3, 3, 3, 3, 3, 3);
        refused("judge", -2, x -> x.judge(3, 4));
        refused("worth", -2, x -> x.worth(2, 1000));
        refused("net", -99000002, x -> x.net(4, 31));
        refused("net of a broken one", -99000003, x -> x.net(2, 31));
        refused("coin", -2, x -> x.coin(31, 3));
        refused("cashIn", -2, x -> x.cashIn(4, 31));
        refused("chain", -2, x -> x.chain(4, 0));
        refused("chain of a broken one", -3, x -> x.chain(2, 0));
        refused("saves", -2, x -> x.saves(4, 0));
        refused("saves of a broken one", -3, x -> x.saves(2, 0));
        refused("changing", -2, x -> x.changing(2, 0, 10, 0));
        refused("changing", -2, x -> x.changing(0, 0, 10, 20));
        refused("interest", -2, x -> x.interest(2, 100));
        refused("numbers", -2, x -> x.numbers(0, 4, 41));
        refused("put", -2, x -> x.put(4, 40, 0));
        refused("put", -6, x -> x.put(3, 40, 0));
        empty("pillar, ahead of NONE", -3, x -> x.pillar(0));
        empty("favour, ahead of NONE", -3, x -> x.favour(0, 1));
        empty("ring, ahead of NONE", -2, x -> x.ring(16));
        empty("hangs", -99000002, x -> x.hangs(0));
        empty("changing, ahead of NONE", -3, x -> x.changing(0, 1, 10, 19));
        empty("look, ahead of NONE", -6, x -> x.look(0));
    }

    public static void main(String[] args) {
        order();
        none();
        fairs();
        deeds();
        ahead();
        here();
        trays();
        asking();
        Check.close("RefusedTest");
    }
}
