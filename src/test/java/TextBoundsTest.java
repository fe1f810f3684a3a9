/** The first part of the document's Terms, the text and its faults, and promises 1 to 4: each bound. */
public final class TextBoundsTest {
    private static final String HEAD = "fairs 1 moneys 1;";
    private static final String TWO = HEAD + "merchant 0;merchant 0;";

    private static void size() {
        Check.says("a TEXT of at most 900 bytes");
        StringBuilder full = new StringBuilder(HEAD);
        while (full.length() + 7 <= 900) full.append("fair 1;");
        while (full.length() < 900) full.append('\n');
        Check.good(full.toString(), 1 + 126);
        full.setCharAt(899, 'x');
        Check.fault(full.toString(), 2, 899);
        // a law of as many tokens as 900 bytes can hold: a sum of 438 ones, one of 439 is one byte too long
        StringBuilder sum = new StringBuilder(HEAD).append("worth:1");
        while (sum.length() + 3 <= 900) sum.append("+1");
        sum.append(';');
        Counted x = Check.of(sum.toString());
        Check.due("bytes of the sum", sum.length(), 899);
        Check.due("worth of the sum", x.worth(0, 0), 438);
        StringBuilder truth = new StringBuilder(TWO).append("letter 0 to 1 of 1 at 0;time:");
        while (truth.length() + 7 <= 900) truth.append("1=0or ");
        truth.append("0=0;");
        x = Check.of(truth.toString());
        Check.due("bytes of the truth", truth.length() > 890 ? 1 : 0, 1);
        Check.due("who breaks by the truth", x.hold(1, false), 0);
        // laws told again and again: the last one counts, all have room
        StringBuilder laws = new StringBuilder("fairs 1 moneys 1;");
        for (int i = 0; laws.length() + 12 <= 900; i++) laws.append("worth:1+").append(i % 90 + 10).append(';');
        x = Check.of(laws.toString());
        Check.due("worth of the last law", x.worth(0, 0), 1 + 10 + (900 - 17) / 11 % 90 - 1);

        Check.says("(without one: 1 FAIR, 1 MONEY, no MERCHANTS)");
        none(new Counted());
        x = new Counted();
        Check.due("a faulty text", Check.tell(x, "fairs 2 moneys 2;merchant 7;;"), -32);
        none(x);
    }

    private static void none(Counted x) {
        int[] counts = {1, 1, 0, 0, 0, 0, 0, 0, 0, 0, 0};
        for (int i = 0; i < counts.length; i++) Check.due("count(" + i + ")", x.count(i), counts[i]);
        Check.due("worth(0, 0)", x.worth(0, 0), 10);
        Check.due("worth(1, 0)", x.worth(1, 0), -2);
        Check.due("merchant(0, 0)", x.merchant(0, 0), -2);
        Check.due("letter(0, 0)", x.letter(0, 0), -2);
    }

    private static void lines() {
        Check.says("fairs N moneys N ; { LINE ; }");
        Check.good(HEAD, 1);
        Check.good(HEAD + "fair 0;", 2);
        Check.fault("fairs 1 moneys 1", 2, 16);
        Check.fault(HEAD + "fair 0", 2, 23);
        Check.fault(HEAD + ";", 2, 17);
        Check.fault(HEAD + "fair 0;;", 2, 24);
        Check.fault("fairs 1;", 2, 7);
        Check.fault("fairs moneys 1;", 2, 6);
        Check.fault("fairs 1 2;", 2, 8);
        Check.fault("fairs 1 moneys;", 2, 14);
        Check.fault("moneys 1 fairs 1;", 2, 0);
        Check.fault("fairs 1 moneys 1 2;", 2, 17);

        Check.says("LINE: merchant N | letter N to N of N at N [ late N ] | worth : SUM | time : TRUTH | fair N.");
        Check.good(TWO + "letter 0 to 1 of 1 at 1;letter 1 to 0 of 1 at 1 late 1;worth : 1;time : 1 = 1;fair 1;", 8);
        Check.fault(HEAD + "merchant", 2, 25);
        Check.fault(HEAD + "merchant : 1;", 2, 26);
        Check.fault(HEAD + "merchant 1 1;", 2, 28);
        int at = TWO.length();
        Check.fault(TWO + "letter", 2, at + 6);
        Check.fault(TWO + "letter to 1", 2, at + 7);
        Check.fault(TWO + "letter 0", 2, at + 8);
        Check.fault(TWO + "letter 0 1", 2, at + 9);
        Check.fault(TWO + "letter 0 to", 2, at + 11);
        Check.fault(TWO + "letter 0 to of", 2, at + 12);
        Check.fault(TWO + "letter 0 to 1", 2, at + 13);
        Check.fault(TWO + "letter 0 to 1 1", 2, at + 14);
        Check.fault(TWO + "letter 0 to 1 at 0 of 1;", 2, at + 14);
        Check.fault(TWO + "letter 0 to 1 of", 2, at + 16);
        Check.fault(TWO + "letter 0 to 1 of at", 2, at + 17);
        Check.fault(TWO + "letter 0 to 1 of 1", 2, at + 18);
        Check.fault(TWO + "letter 0 to 1 of 1 0", 2, at + 19);
        Check.fault(TWO + "letter 0 to 1 of 1 at", 2, at + 21);
        Check.fault(TWO + "letter 0 to 1 of 1 at late", 2, at + 22);
        Check.fault(TWO + "letter 0 to 1 of 1 at 0", 2, at + 23);
        Check.fault(TWO + "letter 0 to 1 of 1 at 0 late", 2, at + 28);
        Check.fault(TWO + "letter 0 to 1 of 1 at 0 late ;", 2, at + 29);
        Check.fault(TWO + "letter 0 to 1 of 1 at 0 late 1 late 1;", 2, at + 31);
        Check.fault(HEAD + "worth", 2, 22);
        Check.fault(HEAD + "worth 1;", 2, 23);
        Check.fault(HEAD + "worth :;", 2, 24);
        Check.fault(HEAD + "worth : 1", 2, 26);
        Check.fault(HEAD + "time", 2, 21);
        Check.fault(HEAD + "time 1 = 1;", 2, 22);
        Check.fault(HEAD + "time :;", 2, 23);
        Check.fault(HEAD + "time : 1 = 1", 2, 29);
        Check.fault(HEAD + "fair", 2, 21);
        Check.fault(HEAD + "fair : 1;", 2, 22);
    }

    private static void grammar() {
        Check.says("TRUTH: BOTH { or BOTH }; BOTH: UNIT { and UNIT }; UNIT: not UNIT, [ TRUTH ], or SUM, one of = < "
            + ">, SUM.");
        Check.good(HEAD + "time:1=1or 1<1and 1>1or not 1=1and[1=1or 1=1and not[1=1]];", 2);
        Check.fault(HEAD + "time:or 1=1;", 2, 22);
        Check.fault(HEAD + "time:and 1=1;", 2, 22);
        Check.fault(HEAD + "time:1=1 or;", 2, 28);
        Check.fault(HEAD + "time:1=1 and;", 2, 29);
        Check.fault(HEAD + "time:1=1 or and 1=1;", 2, 29);
        Check.fault(HEAD + "time:1=1 1=1;", 2, 26);
        Check.fault(HEAD + "time:1=1[1=1];", 2, 25);
        Check.fault(HEAD + "time:1 not 1=1;", 2, 24);
        Check.fault(HEAD + "time:not;", 2, 25);
        Check.fault(HEAD + "time:not or;", 2, 26);
        Check.fault(HEAD + "time:[];", 2, 23);
        Check.fault(HEAD + "time:[1=1;", 2, 26);
        Check.fault(HEAD + "time:1=1];", 2, 25);
        Check.fault(HEAD + "time:[1]=1;", 2, 24);
        Check.fault(HEAD + "time:(1=1);", 2, 24);
        Check.fault(HEAD + "time:1;", 2, 23);
        Check.fault(HEAD + "time:1=;", 2, 24);
        Check.fault(HEAD + "time:=1;", 2, 22);
        Check.fault(HEAD + "time:1==1;", 2, 24);
        Check.fault(HEAD + "time:1<=1;", 2, 24);
        Check.fault(HEAD + "time:1<1<1;", 2, 25);
        Check.fault(HEAD + "time:1=1+;", 2, 26);

        // behind a ] there may stand no more than and, or, one more ], the end of the line
        for (String next : new String[] {"+1", "-1", "*1", "=1", "<1", ">1", "(1)", "[1=1]", "1", "not 1=1", "who",
            ":", ")", ";;"}) {
            Check.fault(HEAD + "time:[1=1]" + next + "=1;", 2, HEAD.length() + (next.equals(";;") ? 11 : 10));
        }
        // behind a comparison, too, and what its sums go on by
        for (String next : new String[] {"=1", "<1", ">1", "(1)", "[1=1]", " 1", "not 1=1", "who", ":", ")", "]"}) {
            Check.fault(HEAD + "time:1=1" + next + ";", 2, HEAD.length() + (next.equals(" 1") ? 9 : 8));
        }
        truth("not 1=1", false);
        truth("not 1=2", true);
        truth("not not 1=1", true);
        truth("not 1=2 and 1=1", true);
        truth("not[1=2 and 1=1]", true);
        truth("not 1=1 or 1=1", true);
        truth("not[1=1 or 1=1]", false);
        truth("1=1 or 1=1 and 1=2", true);
        truth("[1=1 or 1=1]and 1=2", false);
        truth("1=2 and 1=1 or 1=1", true);
        truth("1=2 and[1=1 or 1=1]", false);
        truth("1=2 or 1=2", false);
        truth("1=1 or 1=2", true);
        truth("1=2 or 1=1", true);
        truth("1=1 or 1=1", true);
        truth("1=2 and 1=2", false);
        truth("1=1 and 1=2", false);
        truth("1=2 and 1=1", false);
        truth("1=1 and 1=1", true);
        for (int a = 1; a <= 3; a++) {
            truth(a + "=2", a == 2);
            truth(a + "<2", a < 2);
            truth(a + ">2", a > 2);
            truth("1-" + a + "<0-1", 1 - a < -1);
        }

        Check.says("SUM: TERM { + TERM | - TERM }; TERM: ATOM { * ATOM };");
        Check.good(HEAD + "worth:1+1-1*1*1-1+(1)*(1+1);", 2);
        for (String sign : new String[] {"+", "-", "*"}) {
            Check.fault(HEAD + "worth:" + sign + "1;", 2, 23);
            Check.fault(HEAD + "worth:1" + sign + ";", 2, 25);
            Check.fault(HEAD + "worth:1" + sign + "+1;", 2, 25);
            Check.fault(HEAD + "worth:1" + sign + "-1;", 2, 25);
            Check.fault(HEAD + "worth:1" + sign + "*1;", 2, 25);
        }
        Check.fault(HEAD + "worth:1 1;", 2, 25);
        Check.fault(HEAD + "worth:1(1);", 2, 24);
        Check.fault(HEAD + "worth:();", 2, 24);
        Check.fault(HEAD + "worth:(1;", 2, 25);
        Check.fault(HEAD + "worth:1);", 2, 24);
        Check.fault(HEAD + "worth:(1];", 2, 25);
        Check.fault(HEAD + "worth:[1];", 2, 23);
        Check.fault(HEAD + "worth:not 1;", 2, 23);
        Check.fault(HEAD + "worth:1=1;", 2, 24);
        Check.fault(HEAD + "worth:1 or 1;", 2, 25);
        Check.fault(HEAD + "worth:1 and 1;", 2, 25);
        Counted x = Check.of("fairs 1 moneys 1;worth:100-20-3-1;");
        Check.due("from the left on", x.worth(0, 0), 76);
        x = Check.of("fairs 1 moneys 1;worth:100-20*2*2+3*(1+1)*2;");
        Check.due("* ahead of + and -", x.worth(0, 0), 32);
    }

    private static void atoms() {
        Check.says("ATOM: N, ( SUM ), fair, year, in worth money, in time who, cash, short too.");
        for (int n : new int[] {1, 2, 99, 100, 998, 999}) {
            Check.due("worth by " + n, Check.of(HEAD + "worth:" + n + ";").worth(0, 0), n);
            Check.due("worth by it in brackets", Check.of(HEAD + "worth:((" + n + "));").worth(0, 0), n);
        }
        Counted x = Check.of("fairs 5 moneys 4;fair 17;worth:fair*100+year*10+money;");
        Check.due("worth(3, 0)", x.worth(3, 0), 233);
        Check.due("worth(1, 3)", x.worth(1, 3), 41);
        // 1 is short by 6 with 3, at fair 2 of year 3
        String text = "fairs 5 moneys 1;fair 17;merchant 0;merchant 3;letter 1 to 0 of 9 at 0;time:";
        String[] atoms = {"who", "cash", "short", "fair", "year", "000", "(999)"};
        int[] values = {1, 3, 6, 2, 3, 0, 999};
        for (int i = 0; i < atoms.length; i++) {
            for (int by = -1; by <= 1; by++) {
                String law = atoms[i] + "=" + (values[i] + by < 0 ? "0-1" : values[i] + by == 1000 ? "999+1"
                    : "" + (values[i] + by));
                Check.due("who breaks by " + law, Check.of(text + law + ";").hold(1, false), by == 0 ? 0 : 1);
            }
        }
    }

    /** Whether time is given by this law. */
    private static void truth(String law, boolean holds) {
        Counted x = Check.of(TWO + "letter 0 to 1 of 1 at 0;time:" + law + ";");
        Check.due("who breaks by " + law, x.hold(1, false), holds ? 0 : 1);
    }

    private static void nesting() {
        Check.says("At most six of not [ ( within one another.");
        String[] opens = {"not ", "[", "("};
        String[] ends = {"", "]", ")"};
        for (int first = 0; first < 3; first++) {
            for (int then = first == 2 ? 2 : 0; then < 3; then++) {
                for (int many = 0; many <= 6; many++) {
                    nested(opens[first], ends[first], many, opens[then], ends[then], 6 - many);
                }
            }
        }
        StringBuilder apart = new StringBuilder(HEAD).append("time:");
        for (int i = 0; i < 9; i++) apart.append("not[not(1)*(((1)))*(1)=(((1)))]and ");
        Check.good(apart.append("1=1;").toString(), 2);
        Check.good(HEAD + "worth:((((((1))))))*((((((1))))))-((((((1))))));", 2);
        // a not holds its unit alone, both sums of it
        Check.good(HEAD + "time:not not not not not not 1=1 and not not not not not not 1=1;", 2);
        Check.good(HEAD + "time:not not not not not(1)=(1);", 2);
        Check.fault(HEAD + "time:not not not not not((1))=(1);", 4, 42);
        Check.fault(HEAD + "time:not not not not not(1)=((1));", 4, 46);
        Check.fault(HEAD + "time:not not not not not not 1=(1);", 4, 48);
        Check.fault(HEAD + "time:[[[[[[1=1]]]and[[[[1=1", 4, 40);
    }

    /** Six at most: so many of one, the others of another one. */
    private static void nested(String first, String firstEnd, int many, String then, String thenEnd, int others) {
        boolean sums = then.equals("(") && others > 0 || first.equals("(") && many > 0;
        String law = first.equals("(") ? "worth:" : "time:";
        String inner = law.equals("worth:") ? "1" : sums ? "1" : "1=1";
        String open = first.repeat(many) + then.repeat(others);
        String end = thenEnd.repeat(others) + (sums && law.equals("time:") ? "=1" : "") + firstEnd.repeat(many);
        Check.good(HEAD + law + open + inner + end + ";", 2);
        String seventh = others > 0 ? then : first;
        Check.fault(HEAD + law + open + seventh + inner + end + ";", 4, (HEAD + law + open).length());
    }

    private static void head() {
        Check.says("fairs: how many a year, 1 to 6; moneys, 1 to 4, numbered from 0 on.");
        for (int fairs = 0; fairs <= 7; fairs++) {
            for (int moneys = 0; moneys <= 5; moneys++) {
                String text = "fairs " + fairs + " moneys " + moneys + ";";
                if (fairs < 1 || fairs > 6) {
                    Check.fault(text, 3, 6);
                } else if (moneys < 1 || moneys > 4) {
                    Check.fault(text, 3, 15);
                } else {
                    Counted x = Check.of(text);
                    Check.due("count(0)", x.count(0), fairs);
                    Check.due("count(1)", x.count(1), moneys);
                    Check.due("the first one", x.worth(0, 0), 10);
                    Check.due("the last one", x.worth(moneys - 1, 0), 9 + moneys);
                    Check.due("one more", x.worth(moneys, 0), -2);
                }
            }
        }
        Check.fault("fairs 999 moneys 1;", 3, 6);
        Check.fault("fairs 1 moneys 999;", 3, 15);
    }

    private static void merchants() {
        Check.says("merchant: CASH, 0 to 999; numbered from 0 on, 6 at most.");
        Counted x = Check.of(HEAD + "merchant 0;merchant 999;merchant 1;merchant 998;merchant 5;merchant 6;");
        Check.due("count(2)", x.count(2), 6);
        Check.cash(x, 0, 999, 1, 998, 5, 6);
        Check.due("merchant 6", x.merchant(6, 0), -2);
        String six = HEAD + "merchant 1;".repeat(6);
        Check.good(HEAD + "merchant 1;".repeat(5), 6);
        Check.good(six, 7);
        Check.fault(six + "merchant 1;", 4, six.length());
        Check.fault(HEAD + "merchant 1000;", 1, 26);
    }

    private static void letters() {
        Check.says("letter: who owes, whom (both told ahead, not one)");
        int at = TWO.length();
        Check.good(TWO + "letter 1 to 0 of 1 at 0;", 4);
        Check.fault(HEAD + "letter 0 to 1 of 1 at 0;merchant 0;merchant 0;", 3, 24);
        Check.fault(HEAD + "merchant 0;letter 0 to 1 of 1 at 0;merchant 0;", 3, 40);
        Check.fault(HEAD + "merchant 0;letter 1 to 0 of 1 at 0;merchant 0;", 3, 35);
        Check.fault(TWO + "letter 2 to 0 of 1 at 0;", 3, at + 7);
        Check.fault(TWO + "letter 0 to 2 of 1 at 0;", 3, at + 12);
        Check.fault(TWO + "letter 0 to 0 of 1 at 0;", 3, at + 12);
        Check.fault(TWO + "letter 1 to 1 of 1 at 0;", 3, at + 12);
        Check.fault(TWO + "letter 2 to 2 of 1 at 0;", 3, at + 7);

        Check.says("how much, 1 to 999, in how many FAIRS from the first one on (wherever that is told) it is DUE, 0 "
            + "to 20;");
        Check.good(TWO + "letter 0 to 1 of 1 at 0;letter 0 to 1 of 999 at 20;", 5);
        Check.fault(TWO + "letter 0 to 1 of 0 at 0;", 3, at + 17);
        Check.fault(TWO + "letter 0 to 1 of 1000 at 0;", 1, at + 17);
        Check.fault(TWO + "letter 0 to 1 of 1 at 21;", 3, at + 22);
        Check.fault(TWO + "letter 0 to 1 of 1 at 999;", 3, at + 22);
        Counted x = Check.of(HEAD + "fair 7;merchant 0;merchant 0;letter 0 to 1 of 1 at 0;letter 0 to 1 of 999 at 20;"
            + "fair 9;letter 1 to 0 of 3 at 1;fair 999;");
        Check.due("the fair", x.count(6), 999);
        Check.due("letter 0 in", x.letter(0, 3), 0);
        Check.due("letter 1 in", x.letter(1, 3), 20);
        Check.due("letter 2 in", x.letter(2, 3), 1);
        Check.due("letter 0 of", x.letter(0, 2), 1);
        Check.due("letter 1 of", x.letter(1, 2), 999);
        Check.due("due here", x.due(0), 1);
        Check.due("due in 20", x.due(20), 2);

        Check.says("late: how likely, in 10, it comes late at each FAIR, 0 to 9 (0); numbered from 0 on, 12 at most.");
        x = Check.of(TWO + "letter 0 to 1 of 1 at 0 late 0;letter 0 to 1 of 1 at 0 late 9;letter 0 to 1 of 1 at 0;");
        Check.due("late 0", x.letter(0, 5), 0);
        Check.due("late 9", x.letter(1, 5), 9);
        Check.due("late not told", x.letter(2, 5), 0);
        Check.due("a letter of three", x.letter(2, 0), 0);
        Check.due("letter 3 of three", x.letter(3, 0), -2);
        Check.fault(TWO + "letter 0 to 1 of 1 at 0 late 10;", 3, at + 29);
        String line = "letter 0 to 1 of 1 at 0;";
        Check.good(TWO + line.repeat(11), 14);
        Check.good(TWO + line.repeat(12), 15);
        Check.fault(TWO + line.repeat(13), 4, at + 12 * line.length());
        x = Check.of(TWO + line.repeat(12));
        Check.due("count(4)", x.count(4), 12);
        Check.due("the 12th letter", x.letter(11, 2), 1);
        Check.due("the 13th letter", x.letter(12, 2), -2);
    }

    private static void first() {
        Check.says("fair: the first one, 0 to 999 (0).");
        Check.due("not told", Check.of(HEAD).count(6), 0);
        Check.due("fair 0", Check.of(HEAD + "fair 0;").count(6), 0);
        Check.due("fair 999", Check.of(HEAD + "fair 999;").count(6), 999);
        Check.fault(HEAD + "fair 1000;", 1, 22);

        Check.says("Later ones of worth, time, fair count in place of earlier ones.");
        Counted x = Check.of(TWO + "letter 0 to 1 of 1 at 0;worth : 700 + money;time : 1 = 1;fair 8;worth : 3;"
            + "time : 1 = 2;fair 0;");
        Check.due("count(6)", x.count(6), 0);
        Check.due("worth(0, 0)", x.worth(0, 0), 3);
        Check.due("who breaks", x.hold(1, false), 1);
        x = Check.of(TWO + "letter 0 to 1 of 1 at 0;time : 1 = 2;worth : 3;time : 1 = 1;");
        Check.due("who breaks", x.hold(1, false), 0);
        Check.due("worth(0, 0)", x.worth(0, 0), 3);
    }

    private static void tokens() {
        Check.says("TOKENS, as long as they go on, between them blanks (10, 32): words (small letters), N (1 to 3 "
            + "digits), the signs ; : + - * ( ) [ ] = < >.");
        Check.good("fairs1moneys1;", 1);
        Check.good(" \nfairs \n 1  moneys\n\n1 ; ", 1);
        Check.fault("fa irs 1 moneys 1;", 2, 0);
        Check.fault("fairs 1 mo\nneys 1;", 2, 8);
        Check.fault("fairs 1 moneys1 2;", 2, 16);
        Check.fault("fairsmoneys 1 1;", 2, 0);
        Check.fault("fairs 1 moneys 1;merchant 1 0;", 2, 28);
        String known = ";:+-*()[]=<>";
        for (int c = 0; c < 256; c++) {
            String text = HEAD + (char) c;
            boolean digit = c >= '0' && c <= '9';
            boolean small = c >= 'a' && c <= 'z';
            if (c == 10 || c == 32) Check.good(text, 1);
            else if (digit || small || known.indexOf(c) >= 0) Check.fault(text, 2, 17);
            else Check.fault(text, 1, 17);
        }
        Counted x = Check.of("fairs 001 moneys 04;merchant 000;merchant 07;merchant 010;");
        Check.due("count(1)", x.count(1), 4);
        Check.cash(x, 0, 7, 10);
        Check.fault("fairs 0001 moneys 1;", 1, 6);
        Check.fault("fairs 1234567890123456789012 moneys 1;", 1, 6);
        Check.fault(HEAD + "merchant 999;merchant 9999;", 1, 39);
    }

    private static void faults() {
        Check.says("FAULTS, the first along the text, of one TOKEN the least kind:");
        Check.fault("fairs 0 moneys 0;%", 3, 6);
        Check.fault("fairs 1 moneys 0;%", 3, 15);
        Check.fault("fairs 1 moneys 1;;%", 2, 17);
        Check.fault("fairs 1 % moneys 0;", 1, 8);
        Check.fault(HEAD + "letter 9 to 9 of 0 at 99 late 99;", 3, 24);
        // 1 ahead of 2
        Check.fault("% 1 moneys 1;", 1, 0);
        Check.fault("fairs 1 0000 1;", 1, 8);
        Check.fault("1234", 1, 0);
        // 1 ahead of 3
        Check.fault("fairs 7777 moneys 1;", 1, 6);
        Check.fault(TWO + "letter 0 to 1 of 0000 at 0;", 1, TWO.length() + 17);
        // 2 ahead of 3
        Check.fault("fairs 1 0 moneys 1;", 2, 8);
        Check.fault("fairs 1 moneys 1;merchant 1 0;", 2, 28);
        Check.fault(TWO + "letter 0 1 of 0 at 0;", 2, TWO.length() + 9);
        // 2 ahead of 4
        String six = HEAD + "merchant 1;".repeat(6);
        Check.fault(six + "fair merchant 1;", 2, six.length() + 5);
        Check.fault(HEAD + "merchant 1;".repeat(5) + "merchant merchant 1;", 2, six.length() - 2);
        Check.fault(HEAD + "worth:((((((not", 2, 29);
        Check.fault(HEAD + "worth:(((((([", 2, 29);
        Check.fault(HEAD + "time:((((((not", 2, 28);
        Check.fault(HEAD + "time:[[[[[[1(", 2, 29);
        String twelve = TWO + "letter 0 to 1 of 1 at 0;".repeat(12);
        Check.fault(twelve + "fair letter", 2, twelve.length() + 5);

        Check.says("1 no TOKEN begins so (4 digits and more: at their first).");
        Check.fault("fairs 1 moneys 1; fair 12345;", 1, 23);
        Check.fault("fairs 1 moneys 1; worth : 1+2000+3;", 1, 28);
        Check.fault("fairs 1.moneys 1;", 1, 7);
        Check.fault("fairs 1 moneys 1;worth : 1 / 1;", 1, 27);
        Check.fault("fairs 1 moneys 1;time : 1 ! 1;", 1, 26);

        Check.says("2 it can't stand there (the end: the text's length; fairs must be told first, and once;"
            + " a word of the other law).");
        Check.fault("", 2, 0);
        Check.fault("   ", 2, 3);
        Check.fault("fairs 1 moneys 1 \n ", 2, 19);
        Counted x = new Counted();
        Check.lay(x, HEAD + "fair 3;");
        Check.due("fairs(22)", x.fairs(22), -32);
        Check.due("the end is where the text ends, not the tape", x.fault(1), 22);
        Check.lay(x, HEAD + "fair 3;");
        Check.due("fairs(20)", x.fairs(20), -32);
        Check.due("a word cut off", x.fault(1), 17);
        Check.fault("merchant 1;" + HEAD, 2, 0);
        Check.fault("fair 1;" + HEAD, 2, 0);
        Check.fault(";" + HEAD, 2, 0);
        Check.fault(HEAD + HEAD, 2, 17);
        Check.fault(HEAD + "merchant 1;fairs 1 moneys 1;", 2, 28);
        for (String word : new String[] {"who", "cash", "short"}) {
            Check.fault(HEAD + "worth:" + word + ";", 2, 23);
            Check.fault(HEAD + "worth:1+(" + word + ");", 2, 26);
            Check.good(HEAD + "time:" + word + "=(" + word + ");", 2);
        }
        Check.fault(HEAD + "time:money=1;", 2, 22);
        Check.fault(HEAD + "time:1=1*money;", 2, 26);
        Check.good(HEAD + "worth:money;", 2);
        for (String word : new String[] {"fair", "year"}) {
            Check.good(HEAD + "worth:" + word + ";", 2);
            Check.good(HEAD + "time:" + word + "=" + word + ";", 2);
        }
        for (String word : new String[] {"fairs", "moneys", "merchant", "letter", "to", "of", "at", "late", "worth",
            "time",
            "or", "and", "x"}) {
            Check.fault(HEAD + "worth:" + word + ";", 2, 23);
            Check.fault(HEAD + "time:" + word + ";", 2, 22);
        }
        for (String word : new String[] {"moneys", "to", "of", "at", "late", "year", "money", "who", "cash", "short",
            "not",
            "and", "or", "fai", "fairss", "merchants", "letters", "a", "z"}) {
            Check.fault(HEAD + word + " 1;", 2, 17);
        }

        Check.says("3 an N out of its bounds (a merchant that isn't told, one and the same).");
        Check.fault(HEAD + "letter 0", 3, 24);
        Check.fault(HEAD + "merchant 1;letter 0 to 0", 3, 40);
        Check.fault(HEAD + "merchant 1;letter 0 to 1", 3, 40);
        Check.fault(HEAD + "merchant 1;letter 1", 3, 35);

        Check.says("4 the first TOKEN of a 7th merchant, a 13th letter; a seventh of not [ (.");
        Check.fault(six + "merchant", 4, six.length());
        Check.fault(six + "\n merchant 1;", 4, six.length() + 2);
        Check.fault(twelve + "letter", 4, twelve.length());
        Check.fault(twelve + " letter 9 to 9 of 9 at 9;", 4, twelve.length() + 1);
        Check.fault(HEAD + "time:not not not not not not not", 4, 46);
        Check.fault(HEAD + "time:[[[[[[[", 4, 28);
        Check.fault(HEAD + "worth:(((((((", 4, 29);
        // letters may stand ahead of merchants: a 7th merchant behind 12 letters
        Check.fault(TWO + "letter 0 to 1 of 1 at 0;".repeat(12) + "merchant 1;".repeat(5), 4, twelve.length() + 44);
    }

    private static void promises() {
        Check.says("1 FAIR, 1 MONEY, no MERCHANTS.");
        none(new Counted());
        Check.says("`NONE = -1`: There is none.");
        Check.due("NONE", NextFair.NONE, -1);

        Check.says("Twenty bytes come behind those on THE TAPE, the highest of each int first: how many it has.");
        Counted x = new Counted();
        Check.due("feed", x.feed(0x66616972, 0x73203320, 0x6d6f6e65, 0x79732032, 0x3b6d6572), 20);
        Check.due("count(9)", x.count(9), 20);
        Check.due("feed", x.feed(0x6368616e, 0x74203737, 0x313b0080, 0xff7f0020, 0x80000000), 40);
        Check.due("count(9)", x.count(9), 40);
        Check.due("fairs(30)", x.fairs(30), 2);
        Check.due("fairs a year", x.count(0), 3);
        Check.due("merchant(0, 0)", x.merchant(0, 0), 771);

        Check.says("-5: it would have more than 900.");
        x = new Counted();
        for (int i = 1; i <= 45; i++) {
            Check.due("feed", x.feed(0x66616972, 0x73203120, 0x6d6f6e65, 0x79732031, 0x3b202020), 20 * i);
        }
        Check.due("feed on a full tape", x.feed(0x25252525, 0x25252525, 0x25252525, 0x25252525, 0x25252525), -5);
        Check.due("count(9)", x.count(9), 900);
        // all there is of the first twenty bytes, then "fairs" once more
        Check.due("fairs(900)", x.fairs(900), -32);
        Check.due("fault(1)", x.fault(1), 20);
        Check.due("feed on an empty tape", x.feed(0, 0, 0, 0, 0), 20);

        Check.says("The first n bytes of THE TAPE (which is empty then) are THE FAIRS, x is 0, nothing can be "
            + "UNDONE: how many LINES (fairs, too; with a FAULT THE TAPE is empty, all else stays).");
        x = Check.of(HEAD + "merchant 5;");
        x.seed(9);
        x.image(0);
        x.seed(7);
        Check.tray(x, 2, 4, 5);
        Check.lay(x, "fairs 2 moneys 3;merchant 1;merchant 2;");
        Check.due("fairs(17)", x.fairs(17), 1);
        Check.due("tape", x.count(9), 0);
        Check.due("undoing", x.count(8), 0);
        Check.due("merchants", x.count(2), 0);
        Check.due("x", x.seed(3), 0);
        Check.lay(x, "fairs 3 moneys 3;;");
        Check.due("fairs(18)", x.fairs(18), -32);
        Check.due("tape", x.count(9), 0);
        Check.due("undoing", x.count(8), 1);
        Check.due("fairs", x.count(0), 2);
        Check.due("lines", x.count(10), 1);
        Check.due("x", x.seed(3), 3);
        Check.due("trays", x.put(2, 1, 8), 8);
        Check.due("images", x.restore(0), 0);
        Check.due("images", x.seed(1), 9);

        // what earlier texts told is gone, that of faulty ones, too
        x = Check.of("fairs 3 moneys 3;fair 9;time : 1 = 1;worth : 77;merchant 5;merchant 0;merchant 1;"
            + "letter 0 to 1 of 9 at 0 late 4;letter 1 to 0 of 1 at 5 late 9;");
        Check.due("time", x.hold(1, false), 0);
        Check.due("a fault", Check.tell(x, "fairs 2 moneys 2;time : 2 = 2;worth : 55;fair 3;merchant 1;merchant 2;"
            + "letter 0 to 1 of 5 at 7;;"), -32);
        Check.due("worth", x.worth(2, 0), 77);
        Check.due("count(6)", x.count(6), 10);
        Check.due("lines", Check.tell(x, "fairs 1 moneys 1;merchant 3;merchant 4;letter 1 to 0 of 5 at 2;"), 4);
        int[] counts = {1, 1, 2, 0, 1, 1, 0, 7, 0, 0, 4};
        for (int i = 0; i < counts.length; i++) Check.due("count(" + i + ")", x.count(i), counts[i]);
        Check.due("worth", x.worth(0, 0), 10);
        Check.due("late", x.letter(0, 5), 0);
        Check.due("in", x.letter(0, 3), 2);
        Check.due("no time", x.hold(3, false), 1);
        Check.tell(x, TWO + "worth : 5;letter 0 to 1 of 5 at 0;");
        Check.due("no time by the law worth", x.hold(1, false), 1);
        // as many long texts as there can be calls for
        String sum = "worth:1" + "+1".repeat(420) + ";";
        x = new Counted();
        for (int i = 1; i <= 10; i++) {
            Check.tell(x, "fairs 1 moneys 1;" + sum.replace("+1;", "+" + i + ";"));
            Check.due("worth of text " + i, x.worth(0, 0), 420 + i);
        }

        Check.says("-3: n is below 0 or above what there is (THE TAPE stays); -30 less the FAULT.");
        x = new Counted();
        Check.due("fairs(1) of nothing", x.fairs(1), -3);
        Check.due("not read", x.fault(0), 0);
        Check.due("fairs(0) of nothing", x.fairs(0), -32);
        Check.lay(x, HEAD);
        Check.due("fairs(-1)", x.fairs(-1), -3);
        Check.due("fairs(21)", x.fairs(21), -3);
        Check.due("fairs of the least", x.fairs(Integer.MIN_VALUE), -3);
        Check.due("fairs of the greatest", x.fairs(Integer.MAX_VALUE), -3);
        Check.due("tape", x.count(9), 20);
        Check.due("the fault is of the text that was read", x.fault(0), 2);
        Check.due("fairs(20)", x.fairs(20), 1);
        Check.lay(x, HEAD);
        Check.due("fairs(0)", x.fairs(0), -32);
        Check.due("tape", x.count(9), 0);

        Check.says("Of the latest fairs() that was read, what 0: its FAULT (0), 1: its place (NONE). NONE for others.");
        x = new Counted();
        Check.due("fault(0) of none", x.fault(0), 0);
        Check.due("fault(1) of none", x.fault(1), -1);
        for (int kind = 1; kind <= 4; kind++) {
            Check.tell(x, new String[] {"%", "x", "fairs 9", "fairs 1 moneys 1;worth:((((((("}[kind - 1]);
            Check.due("fault(0)", x.fault(0), kind);
            Check.due("fault(1)", x.fault(1), new int[] {0, 0, 6, 29}[kind - 1]);
            Check.due("fairs(1) refused", x.fairs(1), -3);
            Check.due("fault(0) still", x.fault(0), kind);
        }
        Check.tell(x, HEAD);
        Check.due("fault(0) of a good one", x.fault(0), 0);
        Check.due("fault(1) of a good one", x.fault(1), -1);
        for (int what : new int[] {-1, 2, Integer.MIN_VALUE, Integer.MAX_VALUE}) {
            Check.due("fault(" + what + ")", x.fault(what), -1);
        }
    }

    public static void main(String[] args) {
        size();
        lines();
        grammar();
        atoms();
        nesting();
        head();
        merchants();
        letters();
        first();
        tokens();
        faults();
        promises();
        Check.close("TextBoundsTest");
    }
}
