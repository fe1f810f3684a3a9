import java.math.BigInteger;
import java.util.ArrayList;
import java.util.LinkedList;
import java.util.List;
import java.util.TreeSet;

/**
 * The document once more, told as plainly as can be, with the Java library and no care for room or speed:
 * ModelTest holds NextFair against it. It shares no code with NextFair.
 */
final class PlainModel {
    static final class Fault extends RuntimeException {
        private static final long serialVersionUID = 1L;
        final int kind;
        final int place;

        Fault(int kind, int place) {
            super(null, null, false, false);
            this.kind = kind;
            this.place = place;
        }
    }

    static final class Letter {
        int owes, whom, much, fair, late;
        char state = 'o';

        Letter copy() {
            Letter c = new Letter();
            c.owes = owes;
            c.whom = whom;
            c.much = much;
            c.fair = fair;
            c.late = late;
            c.state = state;
            return c;
        }
    }

    interface Law {
        int of(int fair, int year, int who, int cash, int shortBy);
    }

    /** Everything an image holds. */
    static final class State {
        int fairsAYear = 1, moneys = 1, lines = 0;
        Law worth, time;
        int fair, x;
        List<Integer> cash = new ArrayList<>();
        TreeSet<Integer> broken = new TreeSet<>();
        List<Letter> letters = new ArrayList<>();

        State copy() {
            State s = new State();
            s.fairsAYear = fairsAYear;
            s.moneys = moneys;
            s.lines = lines;
            s.worth = worth;
            s.time = time;
            s.fair = fair;
            s.x = x;
            s.cash.addAll(cash);
            s.broken.addAll(broken);
            for (Letter l : letters) s.letters.add(l.copy());
            return s;
        }

        List<Integer> due(int at) {
            List<Integer> list = new ArrayList<>();
            for (int i = 0; i < letters.size(); i++) {
                if (letters.get(i).state == 'o' && letters.get(i).fair == at) list.add(i);
            }
            return list;
        }

        int net(int m) {
            int sum = 0;
            for (int i : due(fair)) {
                Letter l = letters.get(i);
                if (l.whom == m) sum += l.much;
                if (l.owes == m) sum -= l.much;
            }
            return broken.contains(m) ? 0 : sum;
        }

        int draw() {
            x = x * 1103515245 + 12345;
            return x >>> 16;
        }

        void breakOne(int m) {
            broken.add(m);
            for (Letter l : letters) if (l.state == 'o' && (l.owes == m || l.whom == m)) l.state = 'v';
        }

        void hold(boolean mules) {
            if (mules) {
                for (int i : due(fair)) {
                    Letter l = letters.get(i);
                    if (l.late > 0 && draw() % 10 < l.late) l.fair++;
                }
            }
            while (true) {
                int[] below = new int[cash.size()];
                boolean any = false;
                for (int m = 0; m < cash.size(); m++) {
                    if (broken.contains(m)) continue;
                    int left = cash.get(m) + net(m);
                    if (left < 0) {
                        below[m] = -left;
                        any = true;
                    }
                }
                if (!any) break;
                for (int m = 0; m < cash.size(); m++) {
                    if (below[m] == 0) continue;
                    boolean given = time != null
                        && time.of(fair % fairsAYear, fair / fairsAYear, m, cash.get(m), below[m]) == 1;
                    if (given) {
                        for (int i : due(fair)) if (letters.get(i).owes == m) letters.get(i).fair++;
                    } else {
                        breakOne(m);
                    }
                }
            }
            int[] nets = new int[cash.size()];
            for (int m = 0; m < cash.size(); m++) nets[m] = net(m);
            for (int m = 0; m < cash.size(); m++) cash.set(m, Math.min(999999, cash.get(m) + nets[m]));
            for (int i : due(fair)) letters.get(i).state = 'p';
            fair++;
        }

        State ahead(int n) {
            State s = copy();
            for (int i = 0; i < n; i++) s.hold(false);
            return s;
        }

        int coin(int at) {
            State s = copy();
            s.fair = at;
            int sum = 0;
            for (int m = 0; m < cash.size(); m++) sum += Math.max(0, -s.net(m));
            return sum;
        }

        int worthOf(int money, int at) {
            if (worth == null) return 10 + money;
            int w = worth.of(at % fairsAYear, at / fairsAYear, money, 0, 0);
            return w < 1 ? 1 : w > 999 ? 999 : w;
        }

        int whyPay(int l) {
            if (l < 0 || l >= letters.size()) return 1;
            Letter x = letters.get(l);
            if (x.state != 'o' || broken.contains(x.owes) || broken.contains(x.whom)) return 2;
            return cash.get(x.owes) < x.much ? 3 : 0;
        }

        void pay(int l) {
            Letter x = letters.get(l);
            cash.set(x.owes, cash.get(x.owes) - x.much);
            cash.set(x.whom, Math.min(999999, cash.get(x.whom) + x.much));
            x.state = 'p';
        }

        int whyLend(int a, int b, int n) {
            int k = cash.size();
            if (a < 0 || b < 0 || a >= k || b >= k || a == b || n < 1 || n > 999) return 1;
            if (broken.contains(a) || broken.contains(b)) return 2;
            return cash.get(a) < n ? 3 : 0;
        }

        void lend(int a, int b, int n) {
            cash.set(a, cash.get(a) - n);
            cash.set(b, Math.min(999999, cash.get(b) + n));
        }

        boolean ring(List<Integer> ls) {
            if (ls.size() < 2 || ls.size() > 6 || new TreeSet<>(ls).size() < ls.size()) return false;
            for (int i = 0; i < ls.size(); i++) {
                Letter a = letters.get(ls.get(i));
                Letter b = letters.get(ls.get((i + 1) % ls.size()));
                if (a.state != 'o' || a.whom != b.owes) return false;
            }
            return true;
        }

        int least(List<Integer> ls) {
            int least = 1000;
            for (int i : ls) least = Math.min(least, letters.get(i).much);
            return least;
        }

        int cancel(List<Integer> ls) {
            int least = least(ls);
            for (int i : ls) {
                letters.get(i).much -= least;
                if (letters.get(i).much == 0) letters.get(i).state = 'p';
            }
            return least;
        }

        int deed(long v) {
            if (v == -1) {
                hold(false);
                return 0;
            }
            if (v == 2000) {
                hold(true);
                return 0;
            }
            int why = 1;
            if (v >= 0 && v < 100) {
                why = whyPay((int) v);
                if (why == 0) pay((int) v);
            } else if (v >= 100 && v < 200) {
                int a = (int) (v / 10 - 10);
                int b = (int) (v % 10);
                if (a >= letters.size() || b >= letters.size() || a == b) return 1;
                why = ring(List.of(a, b)) ? 0 : 2;
                if (why == 0) cancel(List.of(a, b));
            } else if (v >= 1000 && v < 1100) {
                int a = (int) (v / 10 - 100);
                int b = (int) (v % 10);
                why = whyLend(a, b, 10);
                if (why == 0) lend(a, b, 10);
            }
            return why;
        }
    }

    // ---- reading


    static final class Parser {
        final String text;
        int at = 0;
        int tokenAt;
        String token;
        State s = new State();

        Parser(String text) {
            this.text = text;
        }

        /** The token at hand: "" the end, "?" none begins so. */
        void look() {
            int i = at;
            while (i < text.length() && (text.charAt(i) == ' ' || text.charAt(i) == '\n')) i++;
            tokenAt = i;
            String rest = text.substring(i);
            if (rest.isEmpty()) token = "";
            else if (rest.matches("(?s)[a-z].*")) token = rest.replaceFirst("(?s)^([a-z]+).*$", "$1");
            else if (rest.matches("(?s)[0-9]{4}.*")) token = "?";
            else if (rest.matches("(?s)[0-9].*")) token = rest.replaceFirst("(?s)^([0-9]+).*$", "$1");
            else if (";:+-*()[]=<>".indexOf(rest.charAt(0)) >= 0) token = rest.substring(0, 1);
            else token = "?";
        }

        Fault fault(int kind) {
            return new Fault(token.equals("?") ? 1 : kind, tokenAt);
        }

        boolean is(String word) {
            look();
            return token.equals(word);
        }

        boolean may(String word) {
            if (!is(word)) return false;
            at = tokenAt + token.length();
            return true;
        }

        void must(String word) {
            if (!may(word)) throw fault(2);
        }

        int number(int least, int most, int not) {
            look();
            if (!token.matches("[0-9]+")) throw fault(2);
            int n = Integer.parseInt(token);
            if (n < least || n > most || n == not) throw fault(3);
            at = tokenAt + token.length();
            return n;
        }

        State read() {
            must("fairs");
            s.fairsAYear = number(1, 6, -1);
            must("moneys");
            s.moneys = number(1, 4, -1);
            must(";");
            s.lines = 1;
            while (!is("")) {
                line();
                must(";");
                s.lines++;
            }
            for (Letter l : s.letters) l.fair += s.fair;
            return s;
        }

        void line() {
            if (is("merchant")) {
                if (s.cash.size() == 6) throw fault(4);
                must("merchant");
                s.cash.add(number(0, 999, -1));
            } else if (is("letter")) {
                if (s.letters.size() == 12) throw fault(4);
                must("letter");
                Letter l = new Letter();
                l.owes = number(0, s.cash.size() - 1, -1);
                must("to");
                l.whom = number(0, s.cash.size() - 1, l.owes);
                must("of");
                l.much = number(1, 999, -1);
                must("at");
                l.fair = number(0, 20, -1);
                if (may("late")) l.late = number(0, 9, -1);
                s.letters.add(l);
            } else if (may("worth")) {
                must(":");
                s.worth = sum(0, false);
            } else if (may("time")) {
                must(":");
                s.time = truth(0);
            } else if (may("fair")) {
                s.fair = number(0, 999, -1);
            } else {
                throw fault(2);
            }
        }

        Law truth(int open) {
            Law a = both(open);
            while (may("or")) {
                Law l = a;
                Law r = both(open);
                a = (f, y, w, c, b) -> l.of(f, y, w, c, b) == 1 || r.of(f, y, w, c, b) == 1 ? 1 : 0;
            }
            return a;
        }

        Law both(int open) {
            Law a = unit(open);
            while (may("and")) {
                Law l = a;
                Law r = unit(open);
                a = (f, y, w, c, b) -> l.of(f, y, w, c, b) == 1 && r.of(f, y, w, c, b) == 1 ? 1 : 0;
            }
            return a;
        }

        void open(String sign, int open) {
            if (open == 6) throw fault(4);
            must(sign);
        }

        Law unit(int open) {
            if (is("not")) {
                open("not", open);
                Law l = unit(open + 1);
                return (f, y, w, c, b) -> 1 - l.of(f, y, w, c, b);
            }
            if (is("[")) {
                open("[", open);
                Law l = truth(open + 1);
                must("]");
                return l;
            }
            Law l = sum(open, true);
            look();
            String op = token;
            if (!op.equals("=") && !op.equals("<") && !op.equals(">")) throw fault(2);
            must(op);
            Law r = sum(open, true);
            return (f, y, w, c, b) -> {
                int p = l.of(f, y, w, c, b);
                int q = r.of(f, y, w, c, b);
                return (op.equals("=") ? p == q : op.equals("<") ? p < q : p > q) ? 1 : 0;
            };
        }

        static int kept(long v) {
            return v > 1000000 ? 1000000 : v < -1000000 ? -1000000 : (int) v;
        }

        Law sum(int open, boolean time) {
            Law a = term(open, time);
            while (is("+") || is("-")) {
                int sign = token.equals("+") ? 1 : -1;
                must(token);
                Law l = a;
                Law r = term(open, time);
                a = (f, y, w, c, b) -> kept((long) l.of(f, y, w, c, b) + sign * r.of(f, y, w, c, b));
            }
            return a;
        }

        Law term(int open, boolean time) {
            Law a = atom(open, time);
            while (may("*")) {
                Law l = a;
                Law r = atom(open, time);
                a = (f, y, w, c, b) -> kept((long) l.of(f, y, w, c, b) * r.of(f, y, w, c, b));
            }
            return a;
        }

        Law atom(int open, boolean time) {
            look();
            if (token.matches("[0-9]+")) {
                int n = number(0, 999, -1);
                return (f, y, w, c, b) -> n;
            }
            if (token.equals("(")) {
                open("(", open);
                Law l = sum(open + 1, time);
                must(")");
                return l;
            }
            if (may("fair")) return (f, y, w, c, b) -> f;
            if (may("year")) return (f, y, w, c, b) -> y;
            if (!time && may("money")) return (f, y, w, c, b) -> w;
            if (time && may("who")) return (f, y, w, c, b) -> w;
            if (time && may("cash")) return (f, y, w, c, b) -> c;
            if (time && may("short")) return (f, y, w, c, b) -> b;
            throw fault(2);
        }
    }

    // ---- the face

    State s = new State();
    private StringBuilder tape = new StringBuilder();
    private int faultKind = 0;
    private int faultPlace = -1;
    private LinkedList<State> past = new LinkedList<>();
    private final State[] images = new State[2];
    private final long[][] trays = new long[4][];
    private final int[] sorts = new int[4];

    private void remember() {
        past.addFirst(s.copy());
        if (past.size() > 10) past.removeLast();
    }

    private static int bits(Iterable<Integer> set) {
        int b = 0;
        for (int i : set) b |= 1 << i;
        return b;
    }

    private boolean noMerchant(int m) {
        return m < 0 || m >= s.cash.size();
    }

    private static boolean out(long n, long least, long most) {
        return n < least || n > most;
    }

    int feed(int a, int b, int c, int d, int e) {
        if (tape.length() + 20 > 900) return -5;
        for (int v : new int[] {a, b, c, d, e}) {
            for (int k = 3; k >= 0; k--) tape.append((char) (v >> 8 * k & 255));
        }
        return tape.length();
    }

    int fairs(int n) {
        if (n < 0 || n > tape.length()) return -3;
        String text = tape.substring(0, n);
        tape = new StringBuilder();
        try {
            s = new Parser(text).read();
        } catch (Fault f) {
            faultKind = f.kind;
            faultPlace = f.place;
            return -30 - f.kind;
        }
        faultKind = 0;
        faultPlace = -1;
        past.clear();
        return s.lines;
    }

    int fault(int what) {
        return what == 0 ? faultKind : what == 1 ? faultPlace : -1;
    }

    int merchant(int m, int what) {
        if (noMerchant(m) || out(what, 0, 3)) return -2;
        if (what == 0) return s.cash.get(m);
        if (what == 1) return s.broken.contains(m) ? 1 : 0;
        int sum = 0;
        for (Letter l : s.letters) if (l.state == 'o' && (what == 2 ? l.owes : l.whom) == m) sum += l.much;
        return sum;
    }

    int letter(int l, int what) {
        if (out(l, 0, s.letters.size() - 1) || out(what, 0, 5)) return -2;
        Letter x = s.letters.get(l);
        int[] all = {x.owes, x.whom, x.state == 'o' ? x.much : 0, x.state == 'o' ? x.fair - s.fair : -1,
            "opv".indexOf(x.state), x.late};
        return all[what];
    }

    int worth(int money, int n) {
        if (out(money, 0, s.moneys - 1)) return -2;
        return out(n, 0, 999) ? -3 : s.worthOf(money, s.fair + n);
    }

    int seed(int n) {
        remember();
        int was = s.x;
        s.x = n;
        return was;
    }

    int write(int owes, int whom, int much, int in) {
        if (noMerchant(owes) || noMerchant(whom) || owes == whom) return -2;
        if (out(much, 1, 999) || out(in, 0, 20)) return -3;
        if (s.letters.size() == 12) return -4;
        if (s.broken.contains(owes) || s.broken.contains(whom)) return -5;
        remember();
        Letter l = new Letter();
        l.owes = owes;
        l.whom = whom;
        l.much = much;
        l.fair = s.fair + in;
        s.letters.add(l);
        return s.letters.size() - 1;
    }

    int pay(int l) {
        int why = s.whyPay(l);
        if (why != 0) return -10 - why;
        remember();
        s.pay(l);
        return s.letters.get(l).much;
    }

    int lend(int from, int to, int n) {
        int why = s.whyLend(from, to, n);
        if (why != 0) return -10 - why;
        remember();
        s.lend(from, to, n);
        return s.cash.get(from);
    }

    int cancel(int tray) {
        if (out(tray, 0, 3)) return -2;
        if (trays[tray] == null) return -6;
        if (out(trays[tray].length, 2, 6)) return -11;
        List<Integer> ring = new ArrayList<>();
        for (long v : trays[tray]) {
            if (out(v, 0, s.letters.size() - 1)) return -11;
            ring.add((int) v);
        }
        if (!s.ring(ring)) return -12;
        remember();
        return s.cancel(ring);
    }

    int hold(int n, boolean mules) {
        if (out(n, 1, 20)) return -3;
        remember();
        int before = s.broken.size();
        for (int i = 0; i < n; i++) s.hold(mules);
        return s.broken.size() - before;
    }

    int undo(int n) {
        if (out(n, 1, Math.min(10, past.size()))) return -3;
        for (int i = 0; i < n; i++) s = past.removeFirst();
        return past.size();
    }

    int judge(int tray, int what) {
        if (out(tray, 0, 3) || out(what, 0, 3)) return -2;
        if (trays[tray] == null) return -6;
        State t = s.copy();
        for (int i = 0; i < trays[tray].length; i++) {
            int why = t.deed(trays[tray][i]);
            if (why != 0) return new int[] {i, why, bits(t.broken), t.fair}[what];
        }
        return new int[] {-1, 0, bits(t.broken), t.fair}[what];
    }

    int perform(int tray) {
        if (out(tray, 0, 3)) return -2;
        if (trays[tray] == null) return -6;
        State before = s.copy();
        int done = 0;
        for (long v : trays[tray]) {
            if (s.deed(v) != 0) break;
            done++;
        }
        if (done > 0) {
            State after = s;
            s = before;
            remember();
            s = after;
        }
        return done;
    }

    int year(int seed, int times) {
        if (out(times, 1, 30)) return -3;
        State t = s.copy();
        t.x = seed;
        int done = 0;
        for (int i = 0; i < times; i++) {
            int sort = t.draw() % 4;
            int n = t.letters.size();
            int k = t.cash.size();
            if (sort == 0) {
                if (t.deed(2000) == 0) done++;
            } else if (sort == 1 && n > 0) {
                if (t.deed(t.draw() % n) == 0) done++;
            } else if (sort == 2 && n > 0) {
                int a = t.draw() % n;
                int b = t.draw() % n;
                if (a < 10 && b < 10 && t.deed(100 + a * 10 + b) == 0) done++;
            } else if (sort == 3 && k > 0) {
                int a = t.draw() % k;
                int b = t.draw() % k;
                if (t.deed(1000 + a * 10 + b) == 0) done++;
            }
        }
        if (done > 0) {
            remember();
            s = t;
        }
        return done;
    }

    int due(int n) {
        return out(n, 0, 30) ? -3 : bits(s.due(s.fair + n));
    }

    int net(int m, int n) {
        if (noMerchant(m)) return -99000002;
        if (out(n, 0, 30)) return -99000003;
        State t = s.copy();
        t.fair += n;
        return t.net(m);
    }

    int coin(int n, int what) {
        if (out(what, 0, 2)) return -2;
        if (out(n, 0, 30)) return -3;
        int gross = 0;
        for (int l : s.due(s.fair + n)) gross += s.letters.get(l).much;
        int coin = s.coin(s.fair + n);
        return new int[] {coin, gross, gross - coin}[what];
    }

    int heaviest() {
        int best = 0;
        for (int n = 0; n <= 30; n++) if (s.coin(s.fair + n) > s.coin(s.fair + best)) best = n;
        return best;
    }

    int cashIn(int m, int n) {
        if (noMerchant(m)) return -2;
        return out(n, 0, 30) ? -3 : s.ahead(n).cash.get(m);
    }

    int breaksIn(int m) {
        if (noMerchant(m)) return -2;
        for (int n = 0; n <= 30; n++) if (s.ahead(n).broken.contains(m)) return n;
        return -1;
    }

    int broken(int n) {
        return out(n, 0, 30) ? -3 : bits(s.ahead(n).broken);
    }

    int chain(int m, int n) {
        if (noMerchant(m)) return -2;
        if (out(n, 1, 30)) return -3;
        if (s.broken.contains(m)) return -5;
        State t = s.copy();
        t.breakOne(m);
        TreeSet<Integer> also = t.ahead(n).broken;
        also.removeAll(s.ahead(n).broken);
        also.remove(m);
        return bits(also);
    }

    int pillar(int n) {
        if (out(n, 1, 30)) return -3;
        int best = -1;
        int most = 0;
        for (int m = 0; m < s.cash.size(); m++) {
            if (s.broken.contains(m)) continue;
            int many = Integer.bitCount(chain(m, n));
            if (many > most) {
                most = many;
                best = m;
            }
        }
        return best;
    }

    int saves(int m, int n) {
        if (noMerchant(m)) return -2;
        if (out(n, 1, 30)) return -3;
        if (s.broken.contains(m)) return -5;
        for (int more = 0; more <= 9999; more++) {
            State t = s.copy();
            t.cash.set(m, Math.min(999999, t.cash.get(m) + more));
            if (!t.ahead(n).broken.contains(m)) return more;
        }
        return -1;
    }

    int favour(int sum, int n) {
        if (out(sum, 1, 999) || out(n, 1, 30)) return -3;
        int best = -1;
        int fewest = s.ahead(n).broken.size();
        for (int m = 0; m < s.cash.size(); m++) {
            if (s.broken.contains(m)) continue;
            State t = s.copy();
            t.cash.set(m, Math.min(999999, t.cash.get(m) + sum));
            int many = t.ahead(n).broken.size();
            if (many < fewest) {
                fewest = many;
                best = m;
            }
        }
        return best;
    }

    private void grow(List<Integer> path, List<Integer> due, List<List<Integer>> all) {
        if (path.size() >= 2 && s.ring(path) && path.get(0).equals(new TreeSet<>(path).first())) {
            all.add(new ArrayList<>(path));
        }
        if (path.size() == 6) return;
        for (int l : due) {
            if (path.contains(l)) continue;
            if (!path.isEmpty() && s.letters.get(path.get(path.size() - 1)).whom != s.letters.get(l).owes) continue;
            path.add(l);
            grow(path, due, all);
            path.remove(path.size() - 1);
        }
    }

    private List<List<Integer>> allRings() {
        List<List<Integer>> all = new ArrayList<>();
        grow(new ArrayList<>(), s.due(s.fair), all);
        return all;
    }

    int rings() {
        return allRings().size();
    }

    int ring(int what) {
        if (what != 0 && what != 1 && out(what, 10, 15)) return -2;
        List<List<Integer>> all = allRings();
        if (all.isEmpty()) return -1;
        all.sort((a, b) -> {
            int byMost = Integer.compare(s.least(b) * b.size(), s.least(a) * a.size());
            if (byMost != 0) return byMost;
            for (int i = 0; i < Math.min(a.size(), b.size()); i++) {
                int c = a.get(i).compareTo(b.get(i));
                if (c != 0) return c;
            }
            return Integer.compare(a.size(), b.size());
        });
        List<Integer> best = all.get(0);
        if (what == 0) return s.least(best) * best.size();
        if (what == 1) return best.size();
        return what - 10 < best.size() ? best.get(what - 10) : -1;
    }

    int hangs(int l) {
        if (!s.due(s.fair).contains(l)) return -99000002;
        State t = s.copy();
        t.letters.get(l).state = 'v';
        return s.coin(s.fair) - t.coin(s.fair);
    }

    private int odds(int who) {
        List<Integer> due = s.due(s.fair);
        BigInteger sum = BigInteger.ZERO;
        for (int lates = 0; lates < 1 << due.size(); lates++) {
            BigInteger weight = BigInteger.ONE;
            State t = s.copy();
            for (int i = 0; i < due.size(); i++) {
                Letter l = t.letters.get(due.get(i));
                boolean late = (lates >> i & 1) == 1;
                weight = weight.multiply(BigInteger.valueOf(late ? l.late : 10 - l.late));
                if (late) l.fair++;
            }
            if (weight.signum() == 0) continue;
            t.hold(false);
            boolean so = who < 0 ? t.broken.equals(s.broken) : t.broken.contains(who);
            if (so) sum = sum.add(weight);
        }
        return sum.multiply(BigInteger.valueOf(10000)).divide(BigInteger.TEN.pow(due.size())).intValueExact();
    }

    int calm() {
        return odds(-1);
    }

    int danger(int m) {
        if (noMerchant(m)) return -2;
        return s.broken.contains(m) ? -5 : odds(m);
    }

    int vital() {
        int best = -1;
        int most = s.ahead(1).broken.size();
        for (int l : s.due(s.fair)) {
            State t = s.copy();
            t.letters.get(l).fair++;
            int many = t.ahead(1).broken.size();
            if (many > most) {
                most = many;
                best = l;
            }
        }
        return best;
    }

    private long bestCoppers;
    private int[] bestPath;

    private void changeOn(int[] path, int k, int n, int money, long coins) {
        if (k > n) {
            long sum = coins * s.worthOf(money, s.fair + n);
            if (bestPath == null || sum > bestCoppers) {
                bestCoppers = sum;
                bestPath = path.clone();
            }
            return;
        }
        for (int j = 0; j < s.moneys; j++) {
            path[k] = j;
            long into = coins;
            if (j != money) {
                into = coins * s.worthOf(money, s.fair + k) / s.worthOf(j, s.fair + k);
                into = Math.min(into, 1000000000L);
            }
            changeOn(path, k + 1, n, j, into);
        }
    }

    /** Tries every path: n is kept small where there are many moneys. */
    long changing(int money, int coins, int n, int what) {
        if (out(money, 0, s.moneys - 1) || (what != 0 && out(what, 10, 19))) return -2;
        if (out(coins, 1, 999) || out(n, 0, 9)) return -3;
        bestPath = null;
        changeOn(new int[n + 1], 0, n, money, coins);
        if (what == 0) return bestCoppers;
        return what - 10 <= n ? bestPath[what - 10] : -1;
    }

    int interest(int money, int n) {
        if (out(money, 0, s.moneys - 1)) return -2;
        if (out(n, 0, 99)) return -3;
        return s.worthOf(money, s.fair + n) * 10000 / s.worthOf(money, s.fair);
    }

    int dearest(int n) {
        if (out(n, 0, 99)) return -3;
        int best = 0;
        for (int i = 1; i < s.moneys; i++) {
            int mine = s.worthOf(i, s.fair + n) * s.worthOf(best, s.fair);
            int its = s.worthOf(best, s.fair + n) * s.worthOf(i, s.fair);
            if (mine > its) best = i;
        }
        return best;
    }

    private State without(int l) {
        State t = s.copy();
        t.letters.get(l).state = 'v';
        t.hold(false);
        return t;
    }

    int missing(int tray) {
        if (out(tray, 0, 3)) return -2;
        if (trays[tray] == null) return -6;
        if (trays[tray].length != s.cash.size()) return -4;
        int bits = 0;
        for (int l : s.due(s.fair)) {
            State t = without(l);
            boolean fits = true;
            for (int m = 0; m < s.cash.size(); m++) {
                fits &= trays[tray][m] == -1 || trays[tray][m] == t.cash.get(m);
            }
            if (fits) bits |= 1 << l;
        }
        return bits;
    }

    int look(int tray) {
        int bits = missing(tray);
        if (bits < 0) return bits;
        if (bits == 0) return -1;
        int best = -1;
        int least = 99;
        for (int m = 0; m < s.cash.size(); m++) {
            java.util.Map<Integer, Integer> many = new java.util.HashMap<>();
            for (int l : s.due(s.fair)) {
                if ((bits >> l & 1) == 1) many.merge(without(l).cash.get(m), 1, Integer::sum);
            }
            int most = 0;
            for (int v : many.values()) most = Math.max(most, v);
            if (most < least) {
                least = most;
                best = m;
            }
        }
        return best;
    }

    int numbers(int tray, int sort, int n) {
        if (out(tray, 0, 3) || out(sort, 0, 3)) return -2;
        if (out(n, 0, 40)) return -3;
        trays[tray] = new long[n];
        sorts[tray] = sort;
        return 0;
    }

    long put(int tray, int i, long v) {
        if (out(tray, 0, 3)) return -2;
        if (trays[tray] == null) return -6;
        if (out(i, 0, trays[tray].length - 1)) return -7;
        int drop = 64 - (8 << sorts[tray]);
        trays[tray][i] = v << drop >> drop;
        return trays[tray][i];
    }

    int lists(int tray) {
        if (out(tray, 0, 3)) return -2;
        if (trays[tray] == null) return -6;
        State t = s.ahead(1);
        int many = Math.min(trays[tray].length, s.cash.size());
        for (int i = 0; i < many; i++) put(tray, i, t.cash.get(i));
        return many;
    }

    int image(int i) {
        if (out(i, 0, 1)) return -2;
        images[i] = s.copy();
        return 0;
    }

    int restore(int i) {
        if (out(i, 0, 1)) return -2;
        if (images[i] == null) return -5;
        s = images[i].copy();
        past.clear();
        return 0;
    }

    int count(int what) {
        int owed = 0;
        for (int i = 0; i < s.letters.size(); i++) if (s.letters.get(i).state == 'o') owed |= 1 << i;
        int all = 0;
        for (int c : s.cash) all += c;
        int[] list = {s.fairsAYear, s.moneys, s.cash.size(), bits(s.broken), s.letters.size(), owed, s.fair, all,
            past.size(), tape.length(), s.lines};
        return out(what, 0, 10) ? -1 : list[what];
    }
}
