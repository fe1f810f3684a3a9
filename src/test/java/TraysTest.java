/** Promises 40 to 45: trays, images, counts. */
public final class TraysTest {
    private static void numbers() {
        Counted x = new Counted();
        Check.due("40: tray", x.numbers(4, 0, 41), -2);
        Check.due("40: tray", x.numbers(-1, 0, 0), -2);
        Check.due("40: sort", x.numbers(0, 4, -1), -2);
        Check.due("40: sort", x.numbers(0, -1, 0), -2);
        Check.due("40: n", x.numbers(0, 0, -1), -3);
        Check.due("40: n", x.numbers(0, 0, 41), -3);
        Check.due("41: tray", x.put(4, 0, 1), -2);
        Check.due("41: tray", x.put(-1, 0, 1), -2);
        Check.due("41: missing", x.put(0, 50, 1), -6);
        Check.due("40", x.numbers(0, 0, 40), 0);
        Check.due("41: -1", x.put(0, -1, 1), -7);
        Check.due("41: 40", x.put(0, 40, 1), -7);
        Check.due("41: 39", x.put(0, 39, 1), 1);
        Check.due("40", x.numbers(0, 0, 0), 0);
        Check.due("41: none", x.put(0, 0, 1), -7);
        long[] told = {127, 128, -129, 255, 256, 32768, 65535, -32769, 1L << 31, (1L << 32) - 1, 1L << 40,
            Long.MIN_VALUE, Long.MAX_VALUE, -1, 0};
        for (int sort = 0; sort < 4; sort++) {
            x.numbers(sort, sort, 15);
            for (int i = 0; i < told.length; i++) {
                long v = told[i];
                long due = sort == 0 ? (byte) v : sort == 1 ? (short) v : sort == 2 ? (int) v : v;
                Check.due("41: " + v + " in " + sort, x.put(sort, i, v), due);
            }
        }
        // a tray of cut numbers is read as they are cut: 256 is letter 0
        Check.tell(x, "fairs 1 moneys 1;merchant 9;merchant 9;letter 0 to 1 of 1 at 0;letter 1 to 0 of 2 at 0;");
        x.numbers(3, 0, 2);
        x.put(3, 0, 256);
        x.put(3, 1, 257);
        Check.due("41: cut", x.cancel(3), 1);
        Check.due("40: a bad one, the tray stays", x.numbers(3, 2, 41), -3);
        Check.due("40: a bad one, the tray stays", x.put(3, 1, 257), 1);
        Check.due("40: in place, all 0", x.numbers(3, 2, 2), 0);
        Check.due("40: 0 twice", x.cancel(3), -12);
        Check.due("40: all others stay", x.put(2, 14, 1), 1);
    }

    private static void lists() {
        Counted x = new Counted();
        Check.due("42: tray", x.lists(4), -2);
        Check.due("42: tray", x.lists(-1), -2);
        Check.due("42: missing", x.lists(1), -6);
        x.numbers(1, 1, 3);
        Check.due("42: no merchants", x.lists(1), 0);
        Check.tell(x, "fairs 1 moneys 1;merchant 10;merchant 300;merchant 5;letter 0 to 1 of 8 at 0 late 9;"
            + "letter 1 to 2 of 7 at 1;letter 0 to 2 of 2 at 0;letter 2 to 0 of 9 at 3;");
        Check.due("42: three", x.lists(1), 3);
        // 0 308 7 behind this fair: so no one letter is missing, and what was seen isn't so without any
        Check.due("38: all came", x.missing(1), 0);
        x.write(0, 1, 1, 0);
        // 0 is short now and breaks: 10 300 5; without letter 4 it is 0 308 7
        Check.due("38: letter 4", x.missing(1), 16);
        x.numbers(2, 0, 2);
        Check.due("42: as far as it has places", x.lists(2), 2);
        x.numbers(1, 1, 3);
        x.put(1, 2, -1);
        Check.due("42: five places", x.numbers(2, 2, 5), 0);
        x.put(2, 4, 77);
        Check.due("42: three of five", x.lists(2), 3);
        Check.due("42: nothing is held", x.count(6), 0);
        Check.due("42: nothing to undo", x.count(8), 1);
        // the fifth stays: as deeds 10, 300 ..: no letter 10
        Check.due("42", x.judge(2, 0), 0);
        Counted y = new Counted();
        Check.tell(y, "fairs 1 moneys 1;merchant 256;merchant 1;merchant 2;letter 0 to 1 of 1 at 3;"
            + "letter 1 to 0 of 1 at 3;letter 0 to 1 of 1 at 4;");
        y.numbers(0, 0, 3);
        y.put(0, 2, 100);
        Check.due("42: cut to its sort", y.lists(0), 3);
        // 256 is 0 in 8 bits: deeds 0 1 2 pay all three
        Check.due("42: cut to its sort", y.perform(0), 3);
    }

    private static void images() {
        Counted x = new Counted();
        Check.due("43: i", x.image(2), -2);
        Check.due("43: i", x.image(-1), -2);
        Check.due("44: i", x.restore(2), -2);
        Check.due("44: i", x.restore(-1), -2);
        Check.due("44: none", x.restore(0), -5);
        Check.due("43", x.image(0), 0);
        Check.tell(x, "fairs 3 moneys 2;merchant 5;merchant 1;letter 0 to 1 of 4 at 0;letter 1 to 0 of 9 at 0;"
            + "letter 0 to 1 of 2 at 7;worth : 7 + fair;time : 1 = 1;fair 4;");
        x.seed(8);
        x.hold(1, false);
        Check.due("43", x.image(1), 0);
        Check.due("43: undoing stays", x.count(8), 2);
        x.undo(1);
        x.lend(0, 1, 5);
        x.write(0, 1, 4, 4);
        x.seed(1);
        Check.tray(x, 0, 3);
        Check.due("44", x.restore(1), 0);
        int[] counts = {3, 2, 2, 0, 3, 6, 5, 6, 0, 0, 9};
        for (int i = 0; i < counts.length; i++) Check.due("44: count " + i, x.count(i), counts[i]);
        Check.due("44: letter", x.letter(1, 3), 0);
        Check.due("44: paid", x.letter(0, 4), 1);
        Check.due("44: cash", x.merchant(0, 0), 1);
        Check.due("44: the law", x.worth(0, 0), 9);
        Check.due("44: x", x.seed(5), 8);
        Check.due("44: the other law", x.hold(1, false), 0);
        Check.due("44: trays stay", x.put(0, 0, 5), 5);
        Check.due("44: the tape stays", x.feed(1, 2, 3, 4, 5), 20);
        Check.due("44: again", x.restore(1), 0);
        Check.due("44: the tape stays", x.count(9), 20);
        Check.due("44: as it was", x.count(6), 5);
        Check.due("44: without a text", x.restore(0), 0);
        Check.due("44: without a text", x.count(2), 0);
        Check.due("44: without a text", x.count(10), 0);
        Check.due("44: without a law", x.worth(0, 9), 10);
        Check.due("44: fault is of the latest text", x.fault(0), 0);
        Check.due("43: over another", x.image(1), 0);
        x.restore(1);
        Check.due("43: over another", x.count(4), 0);
    }

    private static void counts() {
        Counted x = new Counted();
        Check.tell(x, "fairs 6 moneys 4;merchant 100;merchant 20;merchant 3;letter 0 to 1 of 4 at 0;"
            + "letter 2 to 0 of 9 at 0;letter 0 to 1 of 2 at 7;fair 999;");
        x.feed(1, 1, 1, 1, 1);
        x.hold(1, false);
        // 2 breaks; 0 pays 4
        int[] counts = {6, 4, 3, 4, 3, 4, 1000, 123, 1, 20, 8};
        for (int i = 0; i < counts.length; i++) Check.due("45: count " + i, x.count(i), counts[i]);
        for (int i : new int[] {-1, 11, Integer.MIN_VALUE}) Check.due("45: others", x.count(i), -1);
        Check.due("5: cash of 2, broken", x.merchant(2, 0), 3);
        Check.due("19: broken", x.net(2, 0), 0);
    }

    public static void main(String[] args) {
        numbers();
        lists();
        images();
        counts();
        Check.close("TraysTest");
    }
}
