/** Promises 1 to 7: a new object, the tape, the text, what it tells. */
public final class FairsTest {
    private static final String HEAD = "fairs 1 moneys 1;";
    private static final String THREE = HEAD + "merchant 10;merchant 0;merchant 5;";

    private static void newObject() {
        Counted x = new Counted();
        int[] counts = {1, 1, 0, 0, 0, 0, 0, 0, 0, 0, 0, -1};
        for (int i = 0; i < counts.length; i++) Check.due("1: count " + i, x.count(i), counts[i]);
        Check.due("1: fault 0", x.fault(0), 0);
        Check.due("1: fault 1", x.fault(1), -1);
        Check.due("1: worth", x.worth(0, 999), 10);
        Check.due("1: image of none", x.restore(1), -5);
        Check.due("1: NONE", NextFair.NONE, -1);
    }

    private static void tape() {
        Counted x = new Counted();
        for (int i = 1; i <= 45; i++) Check.due("2: feed " + i, x.feed(0x20202020, 0, -1, 1, 2), 20 * i);
        Check.due("2: feed 46", x.feed(0, 0, 0, 0, 0), -5);
        Check.due("2: bytes", x.count(9), 900);
        Check.due("3: -1", x.fairs(-1), -3);
        Check.due("3: 901", x.fairs(901), -3);
        Check.due("3: tape stays", x.count(9), 900);
        Check.due("4: none read", x.fault(1), -1);
        Check.due("3: a 0 byte", x.fairs(900), -31);
        Check.due("4: its place", x.fault(1), 4);
        Check.due("3: tape is empty", x.count(9), 0);
        Check.due("2: again", x.feed(0, 0, 0, 0, 0), 20);
    }

    private static void order() {
        Counted x = new Counted();
        // "fair" "s3mo" "neys" "2;me" "r%.." - the highest byte of each int first
        x.feed(0x66616972, 0x73336d6f, 0x6e657973, 0x323b6d65, 0x7225ffff);
        Check.due("2: order", x.fairs(20), -32);
        Check.due("2: place of mer", x.fault(1), 14);
        x.feed(0x66616972, 0x73336d6f, 0x6e657973, 0x323bffff, 0);
        Check.due("3: the first n bytes alone", x.fairs(14), 1);
        Check.due("3: the rest is gone", x.count(9), 0);
        Check.due("3: fairs a year", x.count(0), 3);
        Check.due("3: moneys", x.count(1), 2);
        Check.due("4: no fault", x.fault(0), 0);
        Check.due("4: no place", x.fault(1), -1);
        Check.due("4: others", x.fault(2), -1);
        Check.due("4: others below", x.fault(-1), -1);
    }

    private static void tokens() {
        Check.fault("", 2, 0);
        Check.fault("  \n ", 2, 4);
        Check.fault("\t" + HEAD, 1, 0);
        Check.fault("fairs\r1 moneys 1;", 1, 5);
        Check.fault("Fairs 1 moneys 1;", 1, 0);
        Check.fault((char) 233 + "", 1, 0);
        Check.fault((char) 0xE1 + "airs 1 moneys 1;", 1, 0);
        Check.fault("fairs 0001 moneys 1;", 1, 6);
        Check.fault("fairs 1 moneys 1", 2, 16);
        Check.fault("fairs 1 moneys 1;;", 2, 17);
        Check.fault("fair 1 moneys 1;", 2, 0);
        Check.fault("fairss 1 moneys 1;", 2, 0);
        Check.fault("fair s 1 moneys 1;", 2, 0);
        Check.fault("fairs 1 moneys 1;merchants 1;", 2, 17);
        Check.fault("fairs 1 moneys 1;\n merchant 1 2;", 2, 30);
        Check.fault("fairs 1 moneys 1;merchant -1;", 2, 26);
        Check.fault("fairs 1 moneys 1;merchant 12.5;", 1, 28);
        Check.fault("fairs 1 moneys 1;merchant 1,", 1, 27);
        Check.fault("fairs 1 moneys 1;z", 2, 17);
        Check.fault("fairs 1 moneys 1;a{", 2, 17);
        Check.fault("fairs 1 moneys 1;{", 1, 17);
        Check.fault("fairs 1 moneys 1;`", 1, 17);
        Check.fault("fairs 1 moneys 1;merchant;", 2, 25);
        Check.fault("fairs 1 moneys 1;merchant", 2, 25);
        Check.fault("fairs 1 moneys 1;fair;", 2, 21);
        Check.fault("fairs 1 moneys 1;fair fair;", 2, 22);
        Check.fault("fairs 1 moneys 1;letter 0", 3, 24);
        Check.fault(THREE + "letter 0 2 of 1 at 0;", 2, 60);
        Check.fault(THREE + "letter 0 to 2 1 at 0;", 2, 65);
        Check.fault(THREE + "letter 0 to 2 of 1 0;", 2, 70);
        Check.fault(THREE + "letter 0 to of 1 at 0;", 2, 63);
        Check.fault(THREE + "letter 0 to 2 of 1 at 0 late late 1;", 2, 80);
        Check.fault("fairs 1 moneys 1;time 1 = 1;", 2, 22);
        Check.good("fairs 1 moneys 1;fair 0;fair 999;fair 3;", 4);
        Check.good("fairs1moneys1;", 1);
        Check.good(" \n\nfairs\n6moneys 4 ; merchant007;merchant 999;merchant 0 ; \n", 4);
        Check.good(THREE + "letter 0to 1of 2at3late4;letter2to1of999at20;", 6);
    }

    private static void bounds() {
        Check.fault("fairs 0 moneys 1;", 3, 6);
        Check.fault("fairs 7 moneys 1;", 3, 6);
        Check.fault("fairs 6 moneys 0;", 3, 15);
        Check.fault("fairs 6 moneys 5;", 3, 15);
        Check.fault(HEAD + "letter 0 to 1 of 1 at 1;", 3, 24);
        Check.fault(THREE + "letter 3 to 1 of 1 at 1;", 3, 58);
        Check.fault(THREE + "letter 1 to 3 of 1 at 1;", 3, 63);
        Check.fault(THREE + "letter 1 to 1 of 1 at 1;", 3, 63);
        Check.fault(THREE + "letter 1 to 0 of 0 at 1;", 3, 68);
        Check.fault(THREE + "letter 1 to 0 of 1 at 21;", 3, 73);
        Check.fault(THREE + "letter 1 to 0 of 1 at 1 late 10;", 3, 80);
        Check.fault(THREE + "letter 1 to 0 of 1 at 1 late;", 2, 79);
        Check.fault(THREE + "letter 1 to 1 of 1000 at 1;", 3, 63);
        String six = HEAD + "merchant 1;merchant 1;merchant 1;merchant 1;merchant 1;merchant 1;";
        Check.good(six, 7);
        Check.fault(six + "merchant", 4, 83);
        StringBuilder twelve = new StringBuilder(six);
        for (int i = 0; i < 12; i++) twelve.append("letter 0 to 5 of 1 at 0;");
        Check.good(twelve.toString(), 19);
        Check.fault(twelve + "fair 1;letter 9", 4, twelve.length() + 7);
        Check.fault(HEAD + "fair 1000;", 1, 22);
    }

    private static void laws() {
        Check.fault(HEAD + "worth money;", 2, 23);
        Check.fault(HEAD + "worth : who;", 2, 25);
        Check.fault(HEAD + "worth : cash;", 2, 25);
        Check.fault(HEAD + "worth : short;", 2, 25);
        Check.fault(HEAD + "worth : 1 = 1;", 2, 27);
        Check.fault(HEAD + "worth : [1];", 2, 25);
        Check.fault(HEAD + "worth : not 1;", 2, 25);
        Check.fault(HEAD + "worth : 1 +;", 2, 28);
        Check.fault(HEAD + "worth : 1 * * 1;", 2, 29);
        Check.fault(HEAD + "worth : -1;", 2, 25);
        Check.fault(HEAD + "worth : (1;", 2, 27);
        Check.fault(HEAD + "worth : 1)", 2, 26);
        Check.fault(HEAD + "time : money = 1;", 2, 24);
        Check.fault(HEAD + "time : 1;", 2, 25);
        Check.fault(HEAD + "time : (1 = 1);", 2, 27);
        Check.fault(HEAD + "time : 1 = 1 = 1;", 2, 30);
        Check.fault(HEAD + "time : [1 = 1) ;", 2, 30);
        Check.fault(HEAD + "time : not;", 2, 27);
        Check.fault(HEAD + "time : 1 = 1 and;", 2, 33);
        Check.fault(HEAD + "time : 1 = 1 or or;", 2, 33);
        Check.fault(HEAD + "time : 1 = 1 not;", 2, 30);
        Check.good(HEAD + "time : not not not not not not 1 = 1;", 2);
        Check.fault(HEAD + "time : not not not not not not not 1 = 1;", 4, 48);
        Check.fault(HEAD + "time : not not not [[[[ 1 = 1;", 4, 39);
        Check.fault(HEAD + "time : not [ not [ not [ ( 1", 4, 42);
        Check.good(HEAD + "time : not [ not [ not ( 1 ) = (1) or not 1 = 1 ] ];", 2);
        Check.good(HEAD + "worth : ((((((1))))));worth:((((((1))))))+((((((1))))));", 3);
        Check.fault(HEAD + "worth : 1 + (((((((1", 4, 35);
        Check.good(HEAD + "time : cash = who and short > fair or year < 1;", 2);
    }

    private static void worths() {
        Counted x = new Counted();
        Check.due("3", Check.tell(x, "fairs 3 moneys 4;"), 1);
        Check.due("7: without a law", x.worth(3, 5), 13);
        Check.due("7: money", x.worth(4, 0), -2);
        Check.due("7: money, both", x.worth(-1, -1), -2);
        Check.due("7: n", x.worth(0, -1), -3);
        Check.due("7: n", x.worth(0, 1000), -3);
        Check.tell(x, "fairs 3 moneys 4;worth : 100 * year + 10 * fair + money;fair 7;");
        Check.due("7: fair 7", x.worth(2, 0), 212);
        Check.due("7: fair 9", x.worth(1, 2), 301);
        Check.due("7: at most 999", x.worth(0, 999), 999);
        Check.tell(x, "fairs 3 moneys 4;worth : 1;worth : 5 - money * 2;");
        Check.due("7: the later law", x.worth(0, 0), 5);
        Check.due("7: at least 1", x.worth(3, 0), 1);
        Check.tell(x, "fairs 1 moneys 4;worth : 2 - 3 - 4 + 7 * (1 + money) * 2;");
        Check.due("7: from the left, * first", x.worth(1, 0), 23);
        // 999 * 999 is 998,001; times 999 it is kept at 1,000,000
        Check.tell(x, "fairs 1 moneys 1;worth : 999 * 999 * 999 - 999 * 999 - 999 - 501;");
        Check.due("7: kept above", x.worth(0, 0), 1000000 - 998001 - 1500);
        Check.tell(x, "fairs 1 moneys 1;worth : (0 - 999 * 999 * 999 - 999) + 999 * 999 + 999 + 999 + 502;");
        Check.due("7: kept below", x.worth(0, 0), -1000000 + 998001 + 2500);
    }

    private static void told() {
        Counted x = new Counted();
        Check.tell(x, "fairs 4 moneys 1;merchant 10;merchant 0;letter 0 to 1 of 7 at 2;"
            + "fair 33;letter 1 to 0 of 5 at 0 late 9;merchant 3;fair 41;letter 1 to 2 of 1 at 20 late 0;");
        Check.due("45: the later fair", x.count(6), 41);
        Check.due("5: cash", x.merchant(0, 0), 10);
        Check.due("5: not broken", x.merchant(0, 1), 0);
        Check.due("5: owes", x.merchant(1, 2), 6);
        Check.due("5: is owed", x.merchant(1, 3), 7);
        Check.due("5: none", x.merchant(3, 0), -2);
        Check.due("5: none", x.merchant(-1, 0), -2);
        Check.due("5: what", x.merchant(0, 4), -2);
        Check.due("5: what", x.merchant(0, -1), -2);
        int[][] letters = {{0, 1, 7, 2, 0, 0}, {1, 0, 5, 0, 0, 9}, {1, 2, 1, 20, 0, 0}};
        for (int l = 0; l < 3; l++) {
            for (int w = 0; w < 6; w++) Check.due("6: letter " + l + " " + w, x.letter(l, w), letters[l][w]);
        }
        Check.due("6: none", x.letter(3, 0), -2);
        Check.due("6: none", x.letter(-1, 0), -2);
        Check.due("6: what", x.letter(0, 6), -2);
        Check.due("6: what", x.letter(0, -1), -2);
        x.hold(1, false);
        // merchant 1 has nothing to pay 5 with: it breaks, all three letters are void
        Check.due("5: broken", x.merchant(1, 1), 1);
        Check.due("5: owes no more", x.merchant(0, 2), 0);
        Check.due("6: void", x.letter(0, 4), 2);
        Check.due("6: void, how much", x.letter(0, 2), 0);
        Check.due("6: void, when", x.letter(0, 3), -1);
        Check.due("6: void, who", x.letter(0, 1), 1);
        Check.due("6: void, late", x.letter(1, 5), 9);
    }

    private static void whatStays() {
        Counted x = new Counted();
        Check.tell(x, THREE);
        Check.tray(x, 2, 5, 6);
        x.image(1);
        x.seed(99);
        x.lend(0, 1, 4);
        Check.due("3: a fault", Check.tell(x, HEAD + "merchant 3;oops"), -32);
        Check.due("3: all else stays: merchants", x.count(2), 3);
        Check.due("3: all else stays: cash", x.merchant(0, 0), 6);
        Check.due("3: all else stays: lines", x.count(10), 4);
        Check.due("3: all else stays: undoing", x.count(8), 2);
        Check.due("3: all else stays: x", x.seed(98), 99);
        Check.due("3: good", Check.tell(x, "fairs 2 moneys 3;merchant 7;"), 2);
        Check.due("3: nothing can be undone", x.undo(1), -3);
        Check.due("3: x is 0", x.seed(1), 0);
        Check.due("3: merchants", x.count(2), 1);
        Check.due("3: trays stay", x.put(2, 1, 9), 9);
        Check.due("3: images stay", x.restore(1), 0);
        Check.due("44: as it was", x.count(2), 3);
        Check.due("44: as it was", x.count(0), 1);
        Check.due("4: of the latest text", x.fault(0), 0);
        Check.due("3: bad n", x.fairs(1), -3);
    }

    public static void main(String[] args) {
        newObject();
        tape();
        order();
        tokens();
        bounds();
        laws();
        worths();
        told();
        whatStays();
        Check.close("FairsTest");
    }
}
