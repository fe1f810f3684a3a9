/** A NextFair whose calls are counted: nothing is promised of more than 512, so no test may rest on more. */
final class Counted {
    static final int MOST = 512;

    private final NextFair x = new NextFair();
    private final int most;
    private int calls;

    Counted() {
        this(MOST);
    }

    /** For tests that rest on no answer, but call on and on. */
    Counted(int most) {
        this.most = most;
    }

    int feed(int a, int b, int c, int d, int e) {
        count("feed");
        return x.feed(a, b, c, d, e);
    }

    int fairs(int n) {
        count("fairs");
        return x.fairs(n);
    }

    int fault(int what) {
        count("fault");
        return x.fault(what);
    }

    int merchant(int m, int what) {
        count("merchant");
        return x.merchant(m, what);
    }

    int letter(int l, int what) {
        count("letter");
        return x.letter(l, what);
    }

    int worth(int money, int n) {
        count("worth");
        return x.worth(money, n);
    }

    int seed(int n) {
        count("seed");
        return x.seed(n);
    }

    int write(int owes, int whom, int much, int in) {
        count("write");
        return x.write(owes, whom, much, in);
    }

    int pay(int l) {
        count("pay");
        return x.pay(l);
    }

    int lend(int from, int to, int n) {
        count("lend");
        return x.lend(from, to, n);
    }

    int cancel(int tray) {
        count("cancel");
        return x.cancel(tray);
    }

    int hold(int n, boolean mules) {
        count("hold");
        return x.hold(n, mules);
    }

    int undo(int n) {
        count("undo");
        return x.undo(n);
    }

    int judge(int tray, int what) {
        count("judge");
        return x.judge(tray, what);
    }

    int perform(int tray) {
        count("perform");
        return x.perform(tray);
    }

    int year(int seed, int times) {
        count("year");
        return x.year(seed, times);
    }

    int due(int n) {
        count("due");
        return x.due(n);
    }

    int net(int m, int n) {
        count("net");
        return x.net(m, n);
    }

    int coin(int n, int what) {
        count("coin");
        return x.coin(n, what);
    }

    int heaviest() {
        count("heaviest");
        return x.heaviest();
    }

    int cashIn(int m, int n) {
        count("cashIn");
        return x.cashIn(m, n);
    }

    int breaksIn(int m) {
        count("breaksIn");
        return x.breaksIn(m);
    }

    int broken(int n) {
        count("broken");
        return x.broken(n);
    }

    int chain(int m, int n) {
        count("chain");
        return x.chain(m, n);
    }

    int pillar(int n) {
        count("pillar");
        return x.pillar(n);
    }

    int saves(int m, int n) {
        count("saves");
        return x.saves(m, n);
    }

    int favour(int sum, int n) {
        count("favour");
        return x.favour(sum, n);
    }

    int rings() {
        count("rings");
        return x.rings();
    }

    int ring(int what) {
        count("ring");
        return x.ring(what);
    }

    int hangs(int l) {
        count("hangs");
        return x.hangs(l);
    }

    int calm() {
        count("calm");
        return x.calm();
    }

    int danger(int m) {
        count("danger");
        return x.danger(m);
    }

    int vital() {
        count("vital");
        return x.vital();
    }

    long changing(int money, int coins, int n, int what) {
        count("changing");
        return x.changing(money, coins, n, what);
    }

    int interest(int money, int n) {
        count("interest");
        return x.interest(money, n);
    }

    int dearest(int n) {
        count("dearest");
        return x.dearest(n);
    }

    int missing(int tray) {
        count("missing");
        return x.missing(tray);
    }

    int look(int tray) {
        count("look");
        return x.look(tray);
    }

    int numbers(int tray, int sort, int n) {
        count("numbers");
        return x.numbers(tray, sort, n);
    }

    long put(int tray, int i, long v) {
        count("put");
        return x.put(tray, i, v);
    }

    int lists(int tray) {
        count("lists");
        return x.lists(tray);
    }

    int image(int i) {
        count("image");
        return x.image(i);
    }

    int restore(int i) {
        count("restore");
        return x.restore(i);
    }

    int count(int what) {
        count("count");
        return x.count(what);
    }

    int calls() {
        return calls;
    }

    private void count(String call) {
        calls++;
        if (calls == most + 1) Check.due("a test's call " + calls + " on one object, " + call + "()", 1, 0);
    }
}
