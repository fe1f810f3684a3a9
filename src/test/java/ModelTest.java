import java.util.Random;

/** Random runs of calls, each answer held against PlainModel's. */
public final class ModelTest {
    private static Counted x;
    private static PlainModel y;
    private static Random random;
    private static String run;
    private static int calls;

    private static int upTo(int n) {
        return random.nextInt(n + 1);
    }

    private static boolean oneIn(int n) {
        return random.nextInt(n) == 0;
    }

    /** A number that most often can be, sometimes just can't, seldom is far off. */
    private static int near(int least, int most) {
        int sort = random.nextInt(40);
        if (sort == 0) return least - 1;
        if (sort == 1) return most + 1;
        if (sort == 2) return oneIn(2) ? Integer.MIN_VALUE : Integer.MAX_VALUE;
        if (sort == 3) return random.nextInt();
        if (sort == 4) return least;
        if (sort == 5) return most;
        return most < least ? least : least + random.nextInt(most - least + 1);
    }

    private static void same(String call, long got, long want) {
        calls++;
        Check.due(run + ", call " + calls + ": " + call, got, want);
    }

    private static void tell(String text, int n) {
        for (int[] f : Check.feeds(text)) {
            same("feed", x.feed(f[0], f[1], f[2], f[3], f[4]), y.feed(f[0], f[1], f[2], f[3], f[4]));
        }
        same("fairs(" + n + ") of " + text, x.fairs(n), y.fairs(n));
        same("fault(0)", x.fault(0), y.fault(0));
        same("fault(1)", x.fault(1), y.fault(1));
    }

    private static void tellSome() {
        FairText texts = new FairText(random);
        String text = oneIn(4) ? texts.faulty() : texts.good();
        for (int tries = 0; text.length() > 900 && tries < 1000; tries++) text = texts.good();
        if (text.length() > 900) return;
        tell(text, oneIn(30) ? near(0, 900) : text.length());
        same("count(9)", x.count(9), y.count(9));
        if (x.count(9) > 0) same("fairs(0)", x.fairs(0), y.fairs(0));
    }

    private static long deed() {
        int sort = random.nextInt(12);
        int letters = Math.max(1, y.s.letters.size());
        int merchants = Math.max(1, y.s.cash.size());
        if (sort < 4) return random.nextInt(letters + 1);
        if (sort < 6) return 100 + random.nextInt(100);
        if (sort < 8) return 1000 + 10 * random.nextInt(merchants) + random.nextInt(merchants);
        if (sort == 8) return 2000;
        if (sort < 11) return -1;
        return oneIn(2) ? near(-2, 2001) : random.nextLong();
    }

    private static void fillTray() {
        int tray = near(0, 3);
        int use = random.nextInt(3);
        int sort = oneIn(3) ? near(0, 3) : 1 + random.nextInt(3);
        int many = use == 0 ? near(0, 40) : use == 1 ? y.s.cash.size() : near(2, 6);
        if (oneIn(3)) many = Math.min(many, 6);
        same("numbers", x.numbers(tray, sort, many), y.numbers(tray, sort, many));
        if (use == 1) same("lists", x.lists(tray), y.lists(tray));
        for (int i = 0; i < many && i < 41; i++) {
            if (use == 1 && oneIn(2)) continue;
            long v = use == 0 ? deed() : use == 1 ? -1 : random.nextInt(Math.max(1, y.s.letters.size()));
            same("put " + v, x.put(tray, i, v), y.put(tray, i, v));
        }
    }

    /** A ring, or what is nearly one, of letters that go on from one another. */
    private static void fillRing() {
        int n = y.s.letters.size();
        if (n == 0) return;
        int many = 2 + random.nextInt(5);
        int tray = random.nextInt(4);
        same("numbers", x.numbers(tray, 1, many), y.numbers(tray, 1, many));
        int l = random.nextInt(n);
        for (int i = 0; i < many; i++) {
            same("put " + l, x.put(tray, i, l), y.put(tray, i, l));
            for (int tries = 0; tries < 30; tries++) {
                int k = random.nextInt(n);
                if (y.s.letters.get(k).owes == y.s.letters.get(l).whom) {
                    l = k;
                    break;
                }
            }
        }
        same("cancel " + tray, x.cancel(tray), y.cancel(tray));
    }

    private static void seenTray() {
        int tray = random.nextInt(4);
        int n = y.s.cash.size();
        int due = y.due(0);
        same("numbers", x.numbers(tray, 2, n), y.numbers(tray, 2, n));
        if (due != 0 && !oneIn(4)) {
            Counted z = x;
            int l = Integer.numberOfTrailingZeros(due & -1 << random.nextInt(12));
            if (l < 32) {
                same("image", z.image(0), y.image(0));
                y.s.letters.get(l).state = 'v';
                PlainModel.State t = y.s.ahead(1);
                y.s.letters.get(l).state = 'o';
                for (int m = 0; m < n; m++) {
                    long v = oneIn(3) ? -1 : t.cash.get(m);
                    same("put", x.put(tray, m, v), y.put(tray, m, v));
                }
            }
        } else {
            for (int m = 0; m < n; m++) {
                long v = oneIn(2) ? -1 : random.nextInt(20);
                same("put", x.put(tray, m, v), y.put(tray, m, v));
            }
        }
        same("missing " + tray, x.missing(tray), y.missing(tray));
        same("look " + tray, x.look(tray), y.look(tray));
    }

    private static void ask() {
        int m = near(0, y.s.cash.size() - 1);
        int l = near(0, y.s.letters.size() - 1);
        int n = near(0, 30);
        int few = near(1, 30);
        int what = near(0, 3);
        int money = near(0, y.s.moneys - 1);
        switch (random.nextInt(30)) {
            case 0: same("merchant " + m + " " + what, x.merchant(m, what), y.merchant(m, what)); break;
            case 1: what = near(0, 5); same("letter " + l + " " + what, x.letter(l, what), y.letter(l, what)); break;
            case 2: n = near(0, 999); same("worth " + money + " " + n, x.worth(money, n), y.worth(money, n)); break;
            case 3: same("due " + n, x.due(n), y.due(n)); break;
            case 4: n = oneIn(2) ? 0 : n; same("net " + m + " " + n, x.net(m, n), y.net(m, n)); break;
            case 5: n = oneIn(2) ? 0 : n; what = near(0, 2);
                same("coin " + n + " " + what, x.coin(n, what), y.coin(n, what)); break;
            case 6: same("heaviest", x.heaviest(), y.heaviest()); break;
            case 7: same("cashIn " + m + " " + n, x.cashIn(m, n), y.cashIn(m, n)); break;
            case 8: same("breaksIn " + m, x.breaksIn(m), y.breaksIn(m)); break;
            case 9: same("broken " + n, x.broken(n), y.broken(n)); break;
            case 10: same("chain " + m + " " + few, x.chain(m, few), y.chain(m, few)); break;
            case 11: same("pillar " + few, x.pillar(few), y.pillar(few)); break;
            case 12: same("saves " + m + " " + few, x.saves(m, few), y.saves(m, few)); break;
            case 13: int sum = near(1, 999); same("favour " + sum + " " + few, x.favour(sum, few), y.favour(sum, few));
                break;
            case 14: same("rings", x.rings(), y.rings()); break;
            case 15: what = oneIn(3) ? near(0, 1) : near(10, 15);
                same("ring " + what, x.ring(what), y.ring(what)); break;
            case 16: same("hangs " + l, x.hangs(l), y.hangs(l)); break;
            case 17: same("calm", x.calm(), y.calm()); break;
            case 18: same("danger " + m, x.danger(m), y.danger(m)); break;
            case 19: same("vital", x.vital(), y.vital()); break;
            case 20: int coins = near(1, 999); what = oneIn(2) ? 0 : near(10, 19);
                n = y.s.moneys == 1 ? near(0, 9) : Math.min(near(0, 9), y.s.moneys == 2 ? 9 : 4);
                same("changing " + money + " " + coins + " " + n + " " + what,
                    x.changing(money, coins, n, what), y.changing(money, coins, n, what)); break;
            case 21: n = near(0, 99); same("interest " + money + " " + n, x.interest(money, n), y.interest(money, n));
                break;
            case 22: n = near(0, 99); same("dearest " + n, x.dearest(n), y.dearest(n)); break;
            case 23: int t = near(0, 3); same("missing " + t, x.missing(t), y.missing(t)); break;
            case 24: t = near(0, 3); same("look " + t, x.look(t), y.look(t)); break;
            case 25: seenTray(); break;
            case 26: what = near(0, 10); same("count " + what, x.count(what), y.count(what)); break;
            case 27: what = near(0, 1); same("fault " + what, x.fault(what), y.fault(what)); break;
            default: t = near(0, 3); same("judge " + t + " " + what, x.judge(t, what), y.judge(t, what)); break;
        }
    }

    private static void act() {
        int m = near(0, y.s.cash.size() - 1);
        int k = near(0, y.s.cash.size() - 1);
        int l = near(0, y.s.letters.size() - 1);
        int tray = near(0, 3);
        switch (random.nextInt(13)) {
            case 0: int n = random.nextInt(); same("seed", x.seed(n), y.seed(n)); break;
            case 1: n = near(1, oneIn(2) ? 20 : 999);
                int in = near(0, oneIn(2) ? 0 : 20);
                same("write " + m + " " + k + " " + n + " " + in, x.write(m, k, n, in), y.write(m, k, n, in)); break;
            case 2: same("pay " + l, x.pay(l), y.pay(l)); break;
            case 3: n = near(1, oneIn(2) ? 10 : 999); same("lend", x.lend(m, k, n), y.lend(m, k, n)); break;
            case 4: same("cancel " + tray, x.cancel(tray), y.cancel(tray)); break;
            case 5: n = oneIn(3) ? near(1, 20) : near(1, 2);
                boolean mules = oneIn(2);
                same("hold " + n + " " + mules, x.hold(n, mules), y.hold(n, mules)); break;
            case 6: n = oneIn(2) ? 1 : near(1, 10); same("undo " + n, x.undo(n), y.undo(n)); break;
            case 7: same("perform " + tray, x.perform(tray), y.perform(tray)); break;
            case 8: n = random.nextInt();
                int times = near(1, 30);
                same("year " + n + " " + times, x.year(n, times), y.year(n, times)); break;
            case 9: int i = near(0, 1); same("image " + i, x.image(i), y.image(i)); break;
            case 10: i = near(0, 1); if (oneIn(3)) same("restore " + i, x.restore(i), y.restore(i)); break;
            case 11: fillTray(); break;
            default: fillRing(); break;
        }
    }

    private static void all() {
        for (int i = -1; i <= 11; i++) same("count " + i, x.count(i), y.count(i));
        for (int m = 0; m < y.s.cash.size(); m++) {
            for (int w = 0; w < 4; w++) same("merchant " + m + " " + w, x.merchant(m, w), y.merchant(m, w));
        }
        for (int l = 0; l < y.s.letters.size(); l++) {
            for (int w = 0; w < 6; w++) same("letter " + l + " " + w, x.letter(l, w), y.letter(l, w));
        }
    }

    public static void main(String[] args) {
        int runs = args.length > 0 ? Integer.parseInt(args[0]) : 3000;
        int first = args.length > 1 ? Integer.parseInt(args[1]) : 0;
        for (int i = first; i < first + runs; i++) {
            random = new Random(i);
            run = "run " + i;
            calls = 0;
            x = new Counted();
            y = new PlainModel();
            // What is done once round is of some 200 calls at most, what all() asks of 109.
            while (x.calls() < 300) {
                if (!(calls == 0 && oneIn(10)) && (calls == 0 || oneIn(80))) tellSome();
                int asks = random.nextInt(12);
                for (int k = 0; k < asks; k++) ask();
                act();
            }
            if (x.calls() + 109 <= Counted.MOST) all();
        }
        Check.close("ModelTest");
    }
}
