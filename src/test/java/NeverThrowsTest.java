import java.util.Random;

/** Any call, in any state, with any arguments: none may throw or fail to end. */
public final class NeverThrowsTest {
    private static final int[] ODD = {0, 1, 2, 3, -1, -2, 9, 10, 11, 12, 15, 20, 30, 31, 32, 40, 41, 63, 64, 99, 100,
        999, 1000, 2000, 9999, 65536, Integer.MAX_VALUE, Integer.MIN_VALUE, Integer.MAX_VALUE - 9,
        Integer.MIN_VALUE + 9};

    private static Random random;

    private static int any() {
        int sort = random.nextInt(10);
        if (sort < 5) return random.nextInt(6);
        return sort < 9 ? ODD[random.nextInt(ODD.length)] : random.nextInt();
    }

    private static long anyLong() {
        int sort = random.nextInt(5);
        if (sort == 0) return random.nextLong();
        if (sort == 1) return random.nextInt(200);
        if (sort == 2) return 1000 + random.nextInt(66);
        return sort == 3 ? any() : -1 + 2001L * random.nextInt(2);
    }

    private static void text(Counted x) {
        FairText texts = new FairText(random);
        int sort = random.nextInt(6);
        String text = sort < 4 ? texts.good() : sort == 4 ? texts.faulty() : noise();
        Check.lay(x, text);
        x.fairs(random.nextInt(10) == 0 ? any() : Math.min(text.length(), x.count(9)));
    }

    private static String noise() {
        StringBuilder s = new StringBuilder();
        String signs = "not [ ( ; : 1 fair who ";
        int many = random.nextInt(300);
        for (int i = 0; i < many; i++) {
            s.append(random.nextInt(3) == 0 ? (char) random.nextInt(256) : signs.charAt(random.nextInt(signs.length())));
        }
        return s.toString();
    }

    private static long act(Counted x, int which) {
        switch (which) {
            case 0: return x.feed(any(), any(), any(), any(), any());
            case 1: return x.fault(any());
            case 2: return x.merchant(any(), any());
            case 3: return x.letter(any(), any());
            case 4: return x.worth(any(), any());
            case 5: return x.seed(any());
            case 6: return x.write(any(), any(), any(), any());
            case 7: return x.pay(any());
            case 8: return x.lend(any(), any(), any());
            case 9: return x.cancel(any());
            case 10: return x.hold(any(), random.nextBoolean());
            case 11: return x.undo(any());
            case 12: return x.judge(any(), any());
            case 13: return x.perform(any());
            case 14: return x.year(any(), any());
            case 15: return x.image(any());
            case 16: return x.restore(any());
            case 17: return x.numbers(any(), any(), any());
            case 18: return x.lists(any());
            case 19: text(x); return 0;
            default:
                int tray = any();
                for (int i = 0; i < 6; i++) x.put(tray, random.nextInt(3) == 0 ? any() : i, anyLong());
                return 0;
        }
    }

    private static long ask(Counted x, int which) {
        switch (which) {
            case 0: return x.due(any());
            case 1: return x.net(any(), any());
            case 2: return x.coin(any(), any());
            case 3: return x.heaviest();
            case 4: return x.cashIn(any(), any());
            case 5: return x.breaksIn(any());
            case 6: return x.broken(any());
            case 7: return x.chain(any(), any());
            case 8: return x.pillar(any());
            case 9: return x.saves(any(), any());
            case 10: return x.favour(any(), any());
            case 11: return x.rings();
            case 12: return x.ring(any());
            case 13: return x.hangs(any());
            case 14: return x.calm();
            case 15: return x.danger(any());
            case 16: return x.vital();
            case 17: return x.changing(any(), any(), any(), any());
            case 18: return x.interest(any(), any());
            case 19: return x.dearest(any());
            case 20: return x.missing(any());
            case 21: return x.look(any());
            default: return x.count(any());
        }
    }

    /** The dearest states: all letters due at once, late, time given by a long law that minds every copper. */
    private static void dearest() {
        StringBuilder s = new StringBuilder("fairs 6 moneys 4;merchant 0;merchant 0;");
        for (int i = 0; i < 12; i++) {
            s.append("letter ").append(i & 1).append(" to ").append(1 - (i & 1)).append(" of ");
            s.append(i % 2 == 0 ? 999 : 1).append(" at 0 late 5;");
        }
        s.append("time : short > 0");
        while (s.length() < 890) s.append("+0*cash");
        s.setLength(s.length() - 7);
        s.append(';');
        Counted x = new Counted();
        Check.due("3: the dearest text", Check.tell(x, s.toString()), 16);
        Check.due("29: most rings", x.rings(), 36 + 450 + 4800);
        Check.due("32: time for all", x.calm(), 10000);
        Check.due("27: 0, time is given", x.saves(0, 30), 0);
        s.setLength(s.length() - 1);
        s.setCharAt(s.indexOf("time : short") + 13, '<');
        s.append(";");
        Check.due("3: the dearest text", Check.tell(x, s.toString()), 16);
        Check.due("27: 6 of 999 less 6", x.saves(0, 30), 6 * 998);
        Check.due("24: all", x.broken(30), 1);
        StringBuilder far = new StringBuilder("fairs 1 moneys 1;fair 999;merchant 999;merchant 0;"
            + "letter 0 to 1 of 9 at 20;time : 1 = 1;");
        Check.due("3", Check.tell(x, far.toString()), 6);
        for (int i = 0; i < 300; i++) x.hold(20, true);
        Check.due("45: far on", x.count(6), 6999);
        Check.due("7: far on", x.worth(0, 999), 10);
    }

    public static void main(String[] args) {
        int runs = args.length > 0 ? Integer.parseInt(args[0]) : 2000;
        long sum = 0;
        for (int i = 0; i < runs; i++) {
            random = new Random(1000003L * i);
            Counted x = new Counted(Integer.MAX_VALUE);
            if (random.nextInt(20) != 0) text(x);
            for (int calls = 0; calls < 400; calls++) {
                boolean asks = random.nextInt(3) != 0;
                sum += asks ? ask(x, random.nextInt(23)) : act(x, random.nextInt(21));
                if (random.nextInt(40) == 0) text(x);
            }
        }
        dearest();
        System.out.println("sum of all answers: " + sum);
        Check.close("NeverThrowsTest");
    }
}
