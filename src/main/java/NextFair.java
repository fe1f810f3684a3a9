/**
 * Fairs that follow each other round the year, merchants with cash, letters due at fairs to come.
 * Words in capitals, here and below, are those of ../shared/DOC.md.
 */
public final class NextFair {
    public static final int NONE = -1;

    private static final int NO_SUCH = -2;
    private static final int BAD_NUMBER = -3;
    private static final int TOO_MANY = -4;
    private static final int NOT_NOW = -5;
    private static final int TRAY_MISSING = -6;
    private static final int NO_PLACE = -7;
    private static final int WHY_NOT = -10;
    private static final int LESS_FAULT = -30;
    private static final int NET_NO_SUCH = -99000002;
    private static final int NET_BAD_NUMBER = -99000003;

    private static final int TAPE = 900;
    private static final int FEED = 20;
    private static final int MERCHANTS = 6;
    private static final int LETTERS = 12;
    private static final int MONEYS = 4;
    private static final int TRAYS = 4;
    private static final int IMAGES = 2;
    private static final int MUCH = 999;
    private static final int IN = 20;
    private static final int AHEAD = 30;
    private static final int HELD = 20;
    private static final int TIMES = 30;

    private final byte[] tape = new byte[TAPE];
    private int tapeLength;
    private int faultKind;
    private int faultPlace;
    private final Book book = new Book();
    private final World now = new World();
    private final World trial = new World();
    private final Reader reader = new Reader();
    private final Past past = new Past();
    private final Image[] images = new Image[IMAGES];
    private final Tray[] trays = new Tray[TRAYS];
    private final Deeds deeds = new Deeds();
    private final Outlook outlook = new Outlook();
    private final Guess guess = new Guess();
    private final RingSearch ringSearch = new RingSearch();
    private final Exchange exchange = new Exchange();

    public NextFair() {
        faultPlace = NONE;
        for (int i = 0; i < images.length; i++) images[i] = new Image();
        for (int i = 0; i < trays.length; i++) trays[i] = new Tray();
    }

    // ---- the fairs

    public int feed(int a, int b, int c, int d, int e) {
        if (tapeLength + FEED > TAPE) return NOT_NOW;
        layOnTape(a);
        layOnTape(b);
        layOnTape(c);
        layOnTape(d);
        layOnTape(e);
        return tapeLength;
    }

    public int fairs(int n) {
        if (n < 0 || n > tapeLength) return BAD_NUMBER;
        boolean good = reader.read(tape, n);
        tapeLength = 0;
        faultKind = reader.fault;
        faultPlace = reader.faultPlace;
        if (!good) return LESS_FAULT - faultKind;
        book.copyFrom(reader.book);
        now.copyFrom(reader.world);
        past.forget();
        return book.lines;
    }

    public int fault(int what) {
        if (what == 0) return faultKind;
        return what == 1 ? faultPlace : NONE;
    }

    public int merchant(int m, int what) {
        if (!now.hasMerchant(m)) return NO_SUCH;
        switch (what) {
            case 0: return at(now.cash, m);
            case 1: return now.isBroken(m) ? 1 : 0;
            case 2: return now.sumOwed(now.owes, m);
            case 3: return now.sumOwed(now.whom, m);
            default: return NO_SUCH;
        }
    }

    public int letter(int l, int what) {
        if (!now.hasLetter(l)) return NO_SUCH;
        boolean owed = now.isOwed(l);
        switch (what) {
            case 0: return at(now.owes, l);
            case 1: return at(now.whom, l);
            case 2: return owed ? at(now.much, l) : 0;
            case 3: return owed ? at(now.dueAt, l) - now.fair : NONE;
            case 4: return at(now.state, l);
            case 5: return at(now.late, l);
            default: return NO_SUCH;
        }
    }

    public int worth(int money, int n) {
        if (!book.hasMoney(money)) return NO_SUCH;
        if (!within(n, 0, 999)) return BAD_NUMBER;
        return book.coppers(money, now.fair + n);
    }

    // ---- deeds

    public int seed(int n) {
        past.remember(now);
        int was = now.x;
        now.x = n;
        return was;
    }

    public int write(int owes, int whom, int much, int in) {
        if (!now.hasMerchant(owes) || !now.hasMerchant(whom) || owes == whom) return NO_SUCH;
        if (!within(much, 1, MUCH) || !within(in, 0, IN)) return BAD_NUMBER;
        if (now.letters >= LETTERS) return TOO_MANY;
        if (now.isBroken(owes) || now.isBroken(whom)) return NOT_NOW;
        past.remember(now);
        now.addLetter(owes, whom, much, now.fair + in, 0);
        return now.letters - 1;
    }

    public int pay(int l) {
        int why = now.whyNotPay(l);
        if (why != 0) return WHY_NOT - why;
        past.remember(now);
        now.payLetter(l);
        return at(now.much, l);
    }

    public int lend(int from, int to, int n) {
        int why = now.whyNotLend(from, to, n);
        if (why != 0) return WHY_NOT - why;
        past.remember(now);
        now.moveCash(from, to, n);
        return at(now.cash, from);
    }

    public int cancel(int tray) {
        Tray told = trayOf(tray);
        if (told == null) return NO_SUCH;
        if (told.isMissing()) return TRAY_MISSING;
        int why = deeds.whyNotRing(now, told);
        if (why != 0) return WHY_NOT - why;
        past.remember(now);
        return now.cancelRing(deeds.ring, told.size);
    }

    public int hold(int n, boolean mules) {
        if (!within(n, 1, HELD)) return BAD_NUMBER;
        past.remember(now);
        int before = now.broken;
        for (int i = 0; i < n; i++) now.holdOne(book, mules);
        return Integer.bitCount(now.broken & ~before);
    }

    public int undo(int n) {
        if (n < 1 || n > past.size) return BAD_NUMBER;
        past.bringBack(now, n);
        return past.size;
    }

    public int judge(int tray, int what) {
        Tray told = trayOf(tray);
        if (told == null || !within(what, 0, 3)) return NO_SUCH;
        if (told.isMissing()) return TRAY_MISSING;
        trial.copyFrom(now);
        int done = deeds.doTray(trial, book, told);
        switch (what) {
            case 0: return deeds.why == 0 ? NONE : done;
            case 1: return deeds.why;
            case 2: return trial.broken;
            default: return trial.fair;
        }
    }

    public int perform(int tray) {
        Tray told = trayOf(tray);
        if (told == null) return NO_SUCH;
        if (told.isMissing()) return TRAY_MISSING;
        trial.copyFrom(now);
        int done = deeds.doTray(trial, book, told);
        if (done > 0) goOnAs(trial);
        return done;
    }

    public int year(int seed, int times) {
        if (!within(times, 1, TIMES)) return BAD_NUMBER;
        trial.copyFrom(now);
        trial.x = seed;
        int done = deeds.doYear(trial, book, times);
        if (done > 0) goOnAs(trial);
        return done;
    }

    // ---- what is due

    public int due(int n) {
        if (!within(n, 0, AHEAD)) return BAD_NUMBER;
        return now.dueBits(now.fair + n);
    }

    public int net(int m, int n) {
        if (!now.hasMerchant(m)) return NET_NO_SUCH;
        if (!within(n, 0, AHEAD)) return NET_BAD_NUMBER;
        now.countNets(now.fair + n, NONE);
        return at(now.nets, m);
    }

    public int coin(int n, int what) {
        if (!within(what, 0, 2)) return NO_SUCH;
        if (!within(n, 0, AHEAD)) return BAD_NUMBER;
        int gross = now.grossAt(now.fair + n);
        int coin = now.coinAt(now.fair + n, NONE);
        if (what == 0) return coin;
        return what == 1 ? gross : gross - coin;
    }

    public int heaviest() {
        int best = 0;
        int most = now.coinAt(now.fair, NONE);
        for (int n = 1; n <= AHEAD; n++) {
            int coin = now.coinAt(now.fair + n, NONE);
            if (coin > most) {
                most = coin;
                best = n;
            }
        }
        return best;
    }

    // ---- who breaks

    public int cashIn(int m, int n) {
        if (!now.hasMerchant(m)) return NO_SUCH;
        if (!within(n, 0, AHEAD)) return BAD_NUMBER;
        outlook.start(now);
        outlook.go(book, n);
        return at(outlook.world.cash, m);
    }

    public int breaksIn(int m) {
        if (!now.hasMerchant(m)) return NO_SUCH;
        outlook.start(now);
        for (int n = 0; n <= AHEAD; n++) {
            if (outlook.world.isBroken(m)) return n;
            outlook.go(book, 1);
        }
        return NONE;
    }

    public int broken(int n) {
        if (!within(n, 0, AHEAD)) return BAD_NUMBER;
        return outlook.brokenBehind(book, now, n);
    }

    public int chain(int m, int n) {
        if (!now.hasMerchant(m)) return NO_SUCH;
        if (!within(n, 1, AHEAD)) return BAD_NUMBER;
        if (now.isBroken(m)) return NOT_NOW;
        return outlook.brokenBesides(book, now, m, n);
    }

    public int pillar(int n) {
        if (!within(n, 1, AHEAD)) return BAD_NUMBER;
        int best = NONE;
        int most = 0;
        for (int m = 0; m < now.merchants; m++) {
            if (now.isBroken(m)) continue;
            int many = Integer.bitCount(outlook.brokenBesides(book, now, m, n));
            if (many > most) {
                most = many;
                best = m;
            }
        }
        return best;
    }

    public int saves(int m, int n) {
        if (!now.hasMerchant(m)) return NO_SUCH;
        if (!within(n, 1, AHEAD)) return BAD_NUMBER;
        if (now.isBroken(m)) return NOT_NOW;
        return outlook.leastSaving(book, now, m, n);
    }

    public int favour(int sum, int n) {
        if (!within(sum, 1, MUCH) || !within(n, 1, AHEAD)) return BAD_NUMBER;
        int best = NONE;
        int fewest = Integer.bitCount(outlook.brokenBehind(book, now, n));
        for (int m = 0; m < now.merchants; m++) {
            if (now.isBroken(m)) continue;
            outlook.start(now);
            outlook.world.addCash(m, sum);
            outlook.go(book, n);
            int many = Integer.bitCount(outlook.world.broken);
            if (many < fewest) {
                fewest = many;
                best = m;
            }
        }
        return best;
    }

    // ---- rings

    public int rings() {
        ringSearch.search(now);
        return ringSearch.found;
    }

    public int ring(int what) {
        if (what != 0 && what != 1 && !within(what, 10, 15)) return NO_SUCH;
        ringSearch.search(now);
        if (ringSearch.found == 0) return NONE;
        if (what == 0) return ringSearch.bestSum;
        if (what == 1) return ringSearch.bestLength;
        return what - 10 < ringSearch.bestLength ? at(ringSearch.best, what - 10) : NONE;
    }

    public int hangs(int l) {
        if (!now.isDue(l, now.fair)) return NET_NO_SUCH;
        return now.coinAt(now.fair, NONE) - now.coinAt(now.fair, l);
    }

    // ---- late

    public int calm() {
        return guess.odds(book, now, NONE);
    }

    public int danger(int m) {
        if (!now.hasMerchant(m)) return NO_SUCH;
        if (now.isBroken(m)) return NOT_NOW;
        return guess.odds(book, now, m);
    }

    public int vital() {
        int best = NONE;
        int most = Integer.bitCount(guess.breakHere(book, now, NONE));
        for (int l = 0; l < now.letters; l++) {
            if (!now.isDue(l, now.fair)) continue;
            int many = Integer.bitCount(guess.breakHere(book, now, l));
            if (many > most) {
                most = many;
                best = l;
            }
        }
        return best;
    }

    // ---- moneys

    public long changing(int money, int coins, int n, int what) {
        if (!book.hasMoney(money) || (what != 0 && !within(what, 10, 19))) return NO_SUCH;
        if (!within(coins, 1, 999) || !within(n, 0, Exchange.FAIRS - 1)) return BAD_NUMBER;
        exchange.plan(book, now.fair, money, coins, n);
        if (what == 0) return exchange.most;
        return what - 10 <= n ? at(exchange.had, what - 10) : NONE;
    }

    public int interest(int money, int n) {
        if (!book.hasMoney(money)) return NO_SUCH;
        if (!within(n, 0, 99)) return BAD_NUMBER;
        long then = book.coppers(money, now.fair + n);
        return (int) cut(then * 10000, book.coppers(money, now.fair));
    }

    public int dearest(int n) {
        if (!within(n, 0, 99)) return BAD_NUMBER;
        int best = 0;
        int bestNow = book.coppers(0, now.fair);
        int bestThen = book.coppers(0, now.fair + n);
        for (int money = 1; money < book.moneys; money++) {
            int here = book.coppers(money, now.fair);
            int then = book.coppers(money, now.fair + n);
            if (then * bestNow > bestThen * here) {
                best = money;
                bestNow = here;
                bestThen = then;
            }
        }
        return best;
    }

    // ---- what didn't come

    public int missing(int tray) {
        Tray seen = trayOf(tray);
        if (seen == null) return NO_SUCH;
        if (seen.isMissing()) return TRAY_MISSING;
        if (seen.size != now.merchants) return TOO_MANY;
        return guess.explaining(book, now, seen);
    }

    public int look(int tray) {
        int bits = missing(tray);
        if (bits < 0) return bits;
        return bits == 0 ? NONE : guess.tellsMost(bits, now.merchants);
    }

    // ---- trays, images

    public int numbers(int tray, int sort, int n) {
        Tray made = trayOf(tray);
        if (made == null || !within(sort, 0, 3)) return NO_SUCH;
        if (!within(n, 0, Tray.PLACES)) return BAD_NUMBER;
        made.make(sort, n);
        return 0;
    }

    public long put(int tray, int i, long v) {
        Tray into = trayOf(tray);
        if (into == null) return NO_SUCH;
        if (into.isMissing()) return TRAY_MISSING;
        if (i < 0 || i >= into.size) return NO_PLACE;
        return into.keep(i, v);
    }

    public int lists(int tray) {
        Tray into = trayOf(tray);
        if (into == null) return NO_SUCH;
        if (into.isMissing()) return TRAY_MISSING;
        outlook.start(now);
        outlook.go(book, 1);
        int many = Math.min(into.size, now.merchants);
        for (int m = 0; m < many; m++) into.keep(m, at(outlook.world.cash, m));
        return many;
    }

    public int image(int i) {
        Image into = imageOf(i);
        if (into == null) return NO_SUCH;
        into.book.copyFrom(book);
        into.world.copyFrom(now);
        into.made = true;
        return 0;
    }

    public int restore(int i) {
        Image from = imageOf(i);
        if (from == null) return NO_SUCH;
        if (!from.made) return NOT_NOW;
        book.copyFrom(from.book);
        now.copyFrom(from.world);
        past.forget();
        return 0;
    }

    public int count(int what) {
        switch (what) {
            case 0: return book.fairsAYear;
            case 1: return book.moneys;
            case 2: return now.merchants;
            case 3: return now.broken;
            case 4: return now.letters;
            case 5: return now.owedBits();
            case 6: return now.fair;
            case 7: return now.sumCash();
            case 8: return past.size;
            case 9: return tapeLength;
            case 10: return book.lines;
            default: return NONE;
        }
    }

    // ---- what the calls share

    private void layOnTape(int four) {
        for (int shift = 24; shift >= 0; shift -= 8) {
            if (tapeLength < 0 || tapeLength >= tape.length) return;
            tape[tapeLength] = (byte) (four >>> shift);
            tapeLength++;
        }
    }

    private Tray trayOf(int i) {
        return i >= 0 && i < trays.length ? trays[i] : null;
    }

    private Image imageOf(int i) {
        return i >= 0 && i < images.length ? images[i] : null;
    }

    private void goOnAs(World world) {
        past.remember(now);
        now.copyFrom(world);
    }

    private static boolean within(long v, long least, long most) {
        return v >= least && v <= most;
    }

    // Rows are read and written through at() and set(), so that every index is looked at first.
    private static int at(int[] row, int i) {
        return i >= 0 && i < row.length ? row[i] : 0;
    }

    private static void set(int[] row, int i, int v) {
        if (i >= 0 && i < row.length) row[i] = v;
    }

    private static long cut(long sum, long by) {
        return by == 0 ? 0 : sum / by;
    }

    private static int rest(int sum, int by) {
        return by == 0 ? 0 : sum % by;
    }

    private static void copyRow(int[] from, int[] to) {
        System.arraycopy(from, 0, to, 0, Math.min(from.length, to.length));
    }

    /** How many fairs and moneys there are, and the laws. */
    private static final class Book {
        static final int FAIR = -1;
        static final int YEAR = -2;
        static final int WHO = -3;
        static final int CASH = -4;
        static final int SHORT = -5;
        static final int NOT = -6;
        static final int PLUS = -10;
        static final int MINUS = -11;
        static final int TIMES = -12;
        static final int EQUAL = -13;
        static final int BELOW = -14;
        static final int ABOVE = -15;
        static final int AND = -16;
        static final int OR = -17;

        private static final int KEPT = 1000000;
        private static final int STACK = 64;

        int fairsAYear = 1;
        int moneys = 1;
        int lines;
        // Each law as a stack takes it, parts ahead of what joins them: numbers as they are, all else below 0.
        // No text has more TOKENS than bytes, so the laws it tells have room, one behind the other.
        final int[] code = new int[TAPE];
        int codeLength;
        int worthFrom;
        int worthTo;
        int timeFrom;
        int timeTo;
        private final int[] stack = new int[STACK];

        void clear() {
            fairsAYear = 1;
            moneys = 1;
            lines = 0;
            codeLength = 0;
            worthFrom = 0;
            worthTo = 0;
            timeFrom = 0;
            timeTo = 0;
        }

        void copyFrom(Book from) {
            fairsAYear = from.fairsAYear;
            moneys = from.moneys;
            lines = from.lines;
            copyRow(from.code, code);
            codeLength = from.codeLength;
            worthFrom = from.worthFrom;
            worthTo = from.worthTo;
            timeFrom = from.timeFrom;
            timeTo = from.timeTo;
        }

        boolean hasMoney(int money) {
            return money >= 0 && money < moneys;
        }

        void addCode(int op) {
            if (codeLength < 0 || codeLength >= code.length) return;
            code[codeLength] = op;
            codeLength++;
        }

        void setLaw(boolean time, int from) {
            if (time) {
                timeFrom = from;
                timeTo = codeLength;
            } else {
                worthFrom = from;
                worthTo = codeLength;
            }
        }

        int coppers(int money, int fair) {
            if (worthFrom == worthTo) return 10 + money;
            int told = tell(false, fair, money, 0, 0);
            return Math.max(1, Math.min(999, told));
        }

        // What a law tells; without one that is 0: no TIME is given.
        int tell(boolean time, int fair, int who, int cash, int shortBy) {
            int from = time ? timeFrom : worthFrom;
            int to = time ? timeTo : worthTo;
            int top = 0;
            for (int i = from; i < to; i++) {
                int op = at(code, i);
                if (op == NOT) {
                    set(stack, top - 1, 1 - at(stack, top - 1));
                } else if (op <= PLUS) {
                    top--;
                    set(stack, top - 1, join(op, at(stack, top - 1), at(stack, top)));
                } else {
                    set(stack, top, op >= 0 ? op : read(op, fair, who, cash, shortBy));
                    top++;
                }
            }
            return top == 1 ? at(stack, 0) : 0;
        }

        private int read(int op, int fair, int who, int cash, int shortBy) {
            switch (op) {
                case FAIR: return rest(fair, fairsAYear);
                case YEAR: return (int) cut(fair, fairsAYear);
                case WHO: return who;
                case CASH: return cash;
                default: return shortBy;
            }
        }

        private static int join(int op, int a, int b) {
            long v;
            switch (op) {
                case PLUS: v = (long) a + b; break;
                case MINUS: v = (long) a - b; break;
                case TIMES: v = (long) a * b; break;
                case EQUAL: return a == b ? 1 : 0;
                case BELOW: return a < b ? 1 : 0;
                case ABOVE: return a > b ? 1 : 0;
                case AND: return a & b;
                default: return a | b;
            }
            return (int) Math.max(-KEPT, Math.min(KEPT, v));
        }

        boolean timeMindsCash() {
            for (int i = timeFrom; i < timeTo; i++) {
                int op = at(code, i);
                if (op == CASH || op == SHORT) return true;
            }
            return false;
        }
    }

    /** Reads a text into a book and a world, up to its first fault. */
    private static final class Reader {
        private static final int CANT_BEGIN = 1;
        private static final int CANT_STAND = 2;
        private static final int OUT_OF_BOUNDS = 3;
        private static final int ONE_TOO_MANY = 4;
        private static final int NESTED = 6;

        // What is joined by or, by and, by + and -, by *.
        private static final int OF_ORS = 0;
        private static final int OF_ANDS = 1;
        private static final int OF_SIGNS = 2;
        private static final int OF_TIMES = 3;

        // Kinds of TOKENS: signs are told by their own number, which is above 20 and below 200.
        private static final int END = 0;
        private static final int BAD = 1;
        private static final int NUMBER = 2;
        private static final int WORD = 200;
        private static final int FAIRS_WORD = 201;
        private static final int MONEYS_WORD = 202;
        private static final int MERCHANT_WORD = 203;
        private static final int LETTER_WORD = 204;
        private static final int TO_WORD = 205;
        private static final int OF_WORD = 206;
        private static final int AT_WORD = 207;
        private static final int LATE_WORD = 208;
        private static final int WORTH_WORD = 209;
        private static final int TIME_WORD = 210;
        private static final int FAIR_WORD = 211;
        private static final int YEAR_WORD = 212;
        private static final int MONEY_WORD = 213;
        private static final int WHO_WORD = 214;
        private static final int CASH_WORD = 215;
        private static final int SHORT_WORD = 216;
        private static final int NOT_WORD = 217;
        private static final int AND_WORD = 218;
        private static final int OR_WORD = 219;
        // The words in the order of their kinds.
        private static final String WORDS =
            " fairs moneys merchant letter to of at late worth time fair year money who cash short not and or ";
        private static final String SIGNS = ";:+-*()[]=<>";

        final Book book = new Book();
        final World world = new World();
        int fault;
        int faultPlace;
        private final int[] kinds = new int[TAPE + 1];
        private final int[] values = new int[TAPE + 1];
        private final int[] places = new int[TAPE + 1];
        private int tokens;
        private int next;
        private int kind;
        private int number;
        private boolean inTime;

        boolean read(byte[] text, int length) {
            split(text, Math.min(length, text.length));
            book.clear();
            world.clear();
            fault = 0;
            faultPlace = NONE;
            next = NONE;
            step();
            if (!readHead()) return false;
            for (int line = 1; line < tokens && kind != END; line++) {
                boolean good;
                switch (kind) {
                    case MERCHANT_WORD: good = readMerchant(); break;
                    case LETTER_WORD: good = readLetter(); break;
                    case WORTH_WORD: good = readLaw(false); break;
                    case TIME_WORD: good = readLaw(true); break;
                    case FAIR_WORD: good = readFirstFair(); break;
                    default: good = refuse(CANT_STAND); break;
                }
                if (!good || !take(';')) return false;
                book.lines++;
            }
            world.countDuesFrom(world.fair);
            return true;
        }

        // ---- the tokens

        private void split(byte[] text, int length) {
            tokens = 0;
            int i = 0;
            while (i < length) {
                int from = i;
                int sort = sortOf(text[i]);
                i++;
                if (sort == ' ') continue;
                boolean goesOn = sort == 'a' || sort == '0';
                while (goesOn && i < length && sortOf(text[i]) == sort) i++;
                if (sort == 'a') addToken(wordKind(text, from, i), 0, from);
                else if (sort == '0') addNumber(text, from, i);
                else addToken(sort, 0, from);
            }
            addToken(END, 0, length);
        }

        private static int sortOf(byte sign) {
            int c = sign & 255;
            if (c == ' ' || c == '\n') return ' ';
            if (c >= 'a' && c <= 'z') return 'a';
            if (c >= '0' && c <= '9') return '0';
            return SIGNS.indexOf((char) c) >= 0 ? c : BAD;
        }

        private void addToken(int kind, int value, int place) {
            set(kinds, tokens, kind);
            set(values, tokens, value);
            set(places, tokens, place);
            tokens++;
        }

        private void addNumber(byte[] text, int from, int to) {
            int value = 0;
            for (int i = from; i < to && i - from < 3; i++) {
                if (i >= 0 && i < text.length) value = value * 10 + text[i] - '0';
            }
            addToken(to - from > 3 ? BAD : NUMBER, value, from);
        }

        // Looks the word up between the blanks of WORDS: how many stand ahead of it tells its kind.
        private static int wordKind(byte[] text, int from, int to) {
            int ahead = 0;
            int fit = 0;
            for (int i = 0; i + 1 < WORDS.length(); i++) {
                char c = WORDS.charAt(i);
                if (c == ' ') {
                    ahead++;
                    fit = 0;
                    continue;
                }
                int j = from + fit;
                boolean same = fit >= 0 && j >= 0 && j < to && j < text.length && text[j] == c;
                fit = same ? fit + 1 : NONE;
                if (fit == to - from && WORDS.charAt(i + 1) == ' ') return WORD + ahead;
            }
            return WORD;
        }

        private void step() {
            next++;
            kind = next >= 0 && next < kinds.length ? kinds[next] : END;
        }

        private boolean refuse(int why) {
            fault = kind == BAD ? CANT_BEGIN : why;
            faultPlace = next >= 0 && next < places.length ? places[next] : 0;
            return false;
        }

        private boolean take(int wanted) {
            if (kind != wanted) return refuse(CANT_STAND);
            step();
            return true;
        }

        private boolean takeNumber(int least, int most) {
            if (kind != NUMBER) return refuse(CANT_STAND);
            number = at(values, next);
            if (number < least || number > most) return refuse(OUT_OF_BOUNDS);
            step();
            return true;
        }

        // ---- the lines

        private boolean readHead() {
            if (!take(FAIRS_WORD) || !takeNumber(1, 6)) return false;
            book.fairsAYear = number;
            if (!take(MONEYS_WORD) || !takeNumber(1, MONEYS)) return false;
            book.moneys = number;
            book.lines = 1;
            return take(';');
        }

        private boolean readMerchant() {
            if (world.merchants >= MERCHANTS) return refuse(ONE_TOO_MANY);
            step();
            if (!takeNumber(0, MUCH)) return false;
            world.addMerchant(number);
            return true;
        }

        private boolean readLetter() {
            if (world.letters >= LETTERS) return refuse(ONE_TOO_MANY);
            step();
            if (!takeNumber(0, world.merchants - 1)) return false;
            int owes = number;
            if (!take(TO_WORD)) return false;
            if (kind == NUMBER && at(values, next) == owes) return refuse(OUT_OF_BOUNDS);
            if (!takeNumber(0, world.merchants - 1)) return false;
            int whom = number;
            if (!take(OF_WORD) || !takeNumber(1, MUCH)) return false;
            int much = number;
            if (!take(AT_WORD) || !takeNumber(0, IN)) return false;
            int in = number;
            int late = 0;
            if (kind == LATE_WORD) {
                step();
                if (!takeNumber(0, 9)) return false;
                late = number;
            }
            world.addLetter(owes, whom, much, in, late);
            return true;
        }

        private boolean readFirstFair() {
            step();
            if (!takeNumber(0, 999)) return false;
            world.fair = number;
            return true;
        }

        private boolean readLaw(boolean time) {
            step();
            if (!take(':')) return false;
            inTime = time;
            int from = book.codeLength;
            if (!readJoined(time ? OF_ORS : OF_SIGNS, 0)) return false;
            book.setLaw(time, from);
            return true;
        }

        // ---- the laws; open is how many of not [ ( stand open, by which no call goes too deep

        // Parts of one kind joined: TRUTH of BOTHs, BOTH of UNITs, SUM of TERMs, TERM of ATOMs.
        private boolean readJoined(int of, int open) {
            if (!readPart(of, open)) return false;
            for (int i = next; i < tokens; i++) {
                int op = joinTold(of);
                if (op == NONE) break;
                step();
                if (!readPart(of, open)) return false;
                book.addCode(op);
            }
            return true;
        }

        private int joinTold(int of) {
            switch (kind) {
                case OR_WORD: return of == OF_ORS ? Book.OR : NONE;
                case AND_WORD: return of == OF_ANDS ? Book.AND : NONE;
                case '+': return of == OF_SIGNS ? Book.PLUS : NONE;
                case '-': return of == OF_SIGNS ? Book.MINUS : NONE;
                case '*': return of == OF_TIMES ? Book.TIMES : NONE;
                default: return NONE;
            }
        }

        private boolean readPart(int of, int open) {
            switch (of) {
                case OF_ORS: return readJoined(OF_ANDS, open);
                case OF_ANDS: return readUnit(open);
                case OF_SIGNS: return readJoined(OF_TIMES, open);
                default: return readAtom(open);
            }
        }

        private boolean readUnit(int open) {
            int nots = 0;
            while (open + nots < NESTED && kind == NOT_WORD) {
                step();
                nots++;
            }
            int inner = open + nots;
            if (kind == NOT_WORD) return refuse(ONE_TOO_MANY);
            if (kind == '[') {
                if (inner >= NESTED) return refuse(ONE_TOO_MANY);
                step();
                if (!readJoined(OF_ORS, inner + 1) || !take(']')) return false;
            } else {
                if (!readJoined(OF_SIGNS, inner)) return false;
                int op = kind == '=' ? Book.EQUAL : kind == '<' ? Book.BELOW : Book.ABOVE;
                if (op == Book.ABOVE && kind != '>') return refuse(CANT_STAND);
                step();
                if (!readJoined(OF_SIGNS, inner)) return false;
                book.addCode(op);
            }
            for (int i = 0; i < nots; i++) book.addCode(Book.NOT);
            return true;
        }

        private boolean readAtom(int open) {
            switch (kind) {
                case '(':
                    if (open >= NESTED) return refuse(ONE_TOO_MANY);
                    step();
                    return readJoined(OF_SIGNS, open + 1) && take(')');
                case NUMBER: return takeAtom(at(values, next));
                case FAIR_WORD: return takeAtom(Book.FAIR);
                case YEAR_WORD: return takeAtom(Book.YEAR);
                case MONEY_WORD: return inTime ? refuse(CANT_STAND) : takeAtom(Book.WHO);
                case WHO_WORD: return inTime ? takeAtom(Book.WHO) : refuse(CANT_STAND);
                case CASH_WORD: return inTime ? takeAtom(Book.CASH) : refuse(CANT_STAND);
                case SHORT_WORD: return inTime ? takeAtom(Book.SHORT) : refuse(CANT_STAND);
                default: return refuse(CANT_STAND);
            }
        }

        private boolean takeAtom(int op) {
            book.addCode(op);
            step();
            return true;
        }
    }

    /** What a call could bring back by UNDOING: CASH, who is BROKEN, letters, the FAIR, x. */
    private static final class World {
        static final int OWED = 0;
        static final int PAID = 1;
        static final int VOID = 2;
        private static final int MOST_CASH = 999999;

        int merchants;
        int letters;
        int broken;
        int fair;
        int x;
        final int[] cash = new int[MERCHANTS];
        final int[] owes = new int[LETTERS];
        final int[] whom = new int[LETTERS];
        final int[] much = new int[LETTERS];
        final int[] dueAt = new int[LETTERS];
        final int[] state = new int[LETTERS];
        final int[] late = new int[LETTERS];
        // Not brought back: NET as it was counted last, and by how much each was SHORT at the FAIR held last, if it was.
        final int[] nets = new int[MERCHANTS];
        final int[] shortBy = new int[MERCHANTS];

        void clear() {
            merchants = 0;
            letters = 0;
            broken = 0;
            fair = 0;
            x = 0;
        }

        void copyFrom(World from) {
            merchants = from.merchants;
            letters = from.letters;
            broken = from.broken;
            fair = from.fair;
            x = from.x;
            copyRow(from.cash, cash);
            copyRow(from.owes, owes);
            copyRow(from.whom, whom);
            copyRow(from.much, much);
            copyRow(from.dueAt, dueAt);
            copyRow(from.state, state);
            copyRow(from.late, late);
        }

        // ---- what there is

        boolean hasMerchant(int m) {
            return m >= 0 && m < merchants;
        }

        boolean hasLetter(int l) {
            return l >= 0 && l < letters;
        }

        boolean isBroken(int m) {
            return (broken >> m & 1) != 0;
        }

        boolean isOwed(int l) {
            return l >= 0 && l < letters && at(state, l) == OWED;
        }

        boolean isDue(int l, int when) {
            return l >= 0 && l < letters && at(state, l) == OWED && at(dueAt, l) == when;
        }

        int owedBits() {
            int bits = 0;
            for (int l = 0; l < letters; l++) if (isOwed(l)) bits |= 1 << l;
            return bits;
        }

        int dueBits(int when) {
            int bits = 0;
            for (int l = 0; l < letters; l++) if (isDue(l, when)) bits |= 1 << l;
            return bits;
        }

        int sumCash() {
            int sum = 0;
            for (int m = 0; m < merchants; m++) sum += at(cash, m);
            return sum;
        }

        // By whose letters: those by which m owes, or those by which it is owed.
        int sumOwed(int[] whose, int m) {
            int sum = 0;
            for (int l = 0; l < letters; l++) if (isOwed(l) && at(whose, l) == m) sum += at(much, l);
            return sum;
        }

        void countNets(int when, int without) {
            for (int m = 0; m < merchants; m++) set(nets, m, 0);
            for (int l = 0; l < letters; l++) {
                if (l == without || !isDue(l, when)) continue;
                int sum = at(much, l);
                int by = at(owes, l);
                int to = at(whom, l);
                set(nets, by, at(nets, by) - sum);
                set(nets, to, at(nets, to) + sum);
            }
        }

        int coinAt(int when, int without) {
            countNets(when, without);
            int sum = 0;
            for (int m = 0; m < merchants; m++) sum -= Math.min(0, at(nets, m));
            return sum;
        }

        int grossAt(int when) {
            int sum = 0;
            for (int l = 0; l < letters; l++) if (isDue(l, when)) sum += at(much, l);
            return sum;
        }

        // ---- telling and changing it

        void addMerchant(int coppers) {
            set(cash, merchants, coppers);
            merchants++;
        }

        void addLetter(int by, int to, int sum, int when, int likely) {
            set(owes, letters, by);
            set(whom, letters, to);
            set(much, letters, sum);
            set(dueAt, letters, when);
            set(state, letters, OWED);
            set(late, letters, likely);
            letters++;
        }

        void countDuesFrom(int first) {
            for (int l = 0; l < letters; l++) set(dueAt, l, at(dueAt, l) + first);
        }

        void addCash(int m, int sum) {
            set(cash, m, Math.min(MOST_CASH, at(cash, m) + sum));
        }

        void moveCash(int from, int to, int sum) {
            addCash(from, -sum);
            addCash(to, sum);
        }

        int whyNotPay(int l) {
            if (!hasLetter(l)) return 1;
            if (!isOwed(l)) return 2;
            return at(cash, at(owes, l)) < at(much, l) ? 3 : 0;
        }

        void payLetter(int l) {
            moveCash(at(owes, l), at(whom, l), at(much, l));
            set(state, l, PAID);
        }

        int whyNotLend(int from, int to, int sum) {
            if (!hasMerchant(from) || !hasMerchant(to) || from == to || !within(sum, 1, MUCH)) return 1;
            if (isBroken(from) || isBroken(to)) return 2;
            return at(cash, from) < sum ? 3 : 0;
        }

        boolean isRing(int[] ring, int length) {
            int used = 0;
            for (int i = 0; i < length; i++) {
                int l = at(ring, i);
                int following = at(ring, i + 1 < length ? i + 1 : 0);
                if (!isOwed(l) || (used >> l & 1) != 0 || at(whom, l) != at(owes, following)) return false;
                used |= 1 << l;
            }
            return true;
        }

        int cancelRing(int[] ring, int length) {
            int least = MUCH;
            for (int i = 0; i < length; i++) least = Math.min(least, at(much, at(ring, i)));
            for (int i = 0; i < length; i++) {
                int l = at(ring, i);
                set(much, l, at(much, l) - least);
                if (at(much, l) == 0) set(state, l, PAID);
            }
            return least;
        }

        int draw() {
            x = 1103515245 * x + 12345;
            return x >>> 16;
        }

        // ---- a FAIR

        void holdOne(Book book, boolean mules) {
            if (mules) waitForMules();
            for (int m = 0; m < merchants; m++) set(shortBy, m, 0);
            boolean anyShort = true;
            // Each time that any is SHORT, one DUE letter at least is DUE here no more.
            for (int i = 0; i <= LETTERS && anyShort; i++) {
                countNets(fair, NONE);
                anyShort = settleShort(book);
            }
            payAll();
            fair++;
        }

        private void waitForMules() {
            for (int l = 0; l < letters; l++) {
                if (isDue(l, fair) && at(late, l) > 0 && draw() % 10 < at(late, l)) delay(l);
            }
        }

        void delay(int l) {
            set(dueAt, l, at(dueAt, l) + 1);
        }

        // All are found SHORT by the nets as they were counted, whatever becomes of those ahead; none twice, for behind
        // it no DUE letter by which it owes is left.
        private boolean settleShort(Book book) {
            boolean any = false;
            for (int m = 0; m < merchants; m++) {
                int below = -at(cash, m) - at(nets, m);
                if (below <= 0 || isBroken(m)) continue;
                any = true;
                set(shortBy, m, below);
                if (book.tell(true, fair, m, at(cash, m), below) != 0) giveTime(m);
                else breakDown(m);
            }
            return any;
        }

        private void giveTime(int m) {
            for (int l = 0; l < letters; l++) {
                if (isDue(l, fair) && at(owes, l) == m) delay(l);
            }
        }

        void breakDown(int m) {
            broken |= 1 << m;
            for (int l = 0; l < letters; l++) {
                if (isOwed(l) && (at(owes, l) == m || at(whom, l) == m)) set(state, l, VOID);
            }
        }

        private void payAll() {
            for (int m = 0; m < merchants; m++) addCash(m, at(nets, m));
            for (int l = 0; l < letters; l++) if (isDue(l, fair)) set(state, l, PAID);
        }
    }

    /** Deeds told in a tray, and those of a year. */
    private static final class Deeds {
        private static final int RING = 6;
        private static final int WITH_MULES = 2000;

        final int[] ring = new int[RING];
        int why;

        // The ring's letters are in the row ring then.
        int whyNotRing(World world, Tray told) {
            if (told.size < 2 || told.size > RING) return 1;
            for (int i = 0; i < told.size; i++) {
                long l = told.get(i);
                if (!within(l, 0, world.letters - 1)) return 1;
                set(ring, i, (int) l);
            }
            return world.isRing(ring, told.size) ? 0 : 2;
        }

        // How many are done till one can't be: why is told then, 0 if all are done.
        int doTray(World world, Book book, Tray told) {
            why = 0;
            int done = 0;
            for (int i = 0; i < told.size; i++) {
                why = doOne(world, book, told.get(i));
                if (why != 0) break;
                done++;
            }
            return done;
        }

        private int doOne(World world, Book book, long v) {
            if (v == NONE || v == WITH_MULES) {
                world.holdOne(book, v == WITH_MULES);
                return 0;
            }
            if (within(v, 0, 99)) return doPay(world, (int) v);
            if (within(v, 100, 199)) return doCancel(world, (int) (v - 100) / 10, (int) v % 10);
            if (within(v, 1000, 1099)) return doLend(world, (int) (v - 1000) / 10, (int) v % 10);
            return 1;
        }

        private int doPay(World world, int l) {
            int no = world.whyNotPay(l);
            if (no == 0) world.payLetter(l);
            return no;
        }

        private int doCancel(World world, int a, int b) {
            if (!world.hasLetter(a) || !world.hasLetter(b) || a == b) return 1;
            set(ring, 0, a);
            set(ring, 1, b);
            if (!world.isRing(ring, 2)) return 2;
            world.cancelRing(ring, 2);
            return 0;
        }

        private int doLend(World world, int from, int to) {
            int no = world.whyNotLend(from, to, 10);
            if (no == 0) world.moveCash(from, to, 10);
            return no;
        }

        int doYear(World world, Book book, int times) {
            int done = 0;
            for (int i = 0; i < times; i++) if (doDrawn(world, book) == 0) done++;
            return done;
        }

        private int doDrawn(World world, Book book) {
            int deed = world.draw() % 4;
            if (deed == 0) {
                world.holdOne(book, true);
                return 0;
            }
            int many = deed == 3 ? world.merchants : world.letters;
            if (many <= 0) return 1;
            int first = rest(world.draw(), many);
            if (deed == 1) return doPay(world, first);
            int second = rest(world.draw(), many);
            if (deed == 3) return doLend(world, first, second);
            // A TRAY has no number for rings of letters 10 and 11.
            return first < 10 && second < 10 ? doCancel(world, first, second) : 1;
        }
    }

    /** The states that calls can bring back, the eldest forgotten. */
    private static final class Past {
        private static final int MOST = 10;

        private final World[] rows = new World[MOST];
        private int eldest;
        int size;

        Past() {
            for (int i = 0; i < rows.length; i++) rows[i] = new World();
        }

        void forget() {
            size = 0;
        }

        private World row(int i) {
            int k = (eldest + i) % MOST;
            return k >= 0 && k < rows.length ? rows[k] : null;
        }

        void remember(World world) {
            if (size >= MOST) eldest = (eldest + 1) % MOST;
            else size++;
            World row = row(size - 1);
            if (row != null) row.copyFrom(world);
        }

        void bringBack(World world, int n) {
            if (n < 1 || n > size) return;
            size -= n;
            World row = row(size);
            if (row != null) world.copyFrom(row);
        }
    }

    /** THE FAIRS and their state as they were once. */
    private static final class Image {
        final Book book = new Book();
        final World world = new World();
        boolean made;
    }

    /** Numbers of one sort, told from outside. */
    private static final class Tray {
        static final int PLACES = 40;

        final long[] row = new long[PLACES];
        int size = NONE;
        private int sort;

        boolean isMissing() {
            return size == NONE;
        }

        void make(int newSort, int n) {
            sort = newSort;
            size = n;
            for (int i = 0; i < row.length; i++) row[i] = 0;
        }

        long get(int i) {
            return i >= 0 && i < row.length ? row[i] : 0;
        }

        long keep(int i, long v) {
            long cutDown = sort == 0 ? (byte) v : sort == 1 ? (short) v : sort == 2 ? (int) v : v;
            if (i >= 0 && i < row.length) row[i] = cutDown;
            return cutDown;
        }
    }

    /** FAIRS to come, nothing late, nothing else being done. */
    private static final class Outlook {
        private static final int MOST_SAVING = 9999;

        final World world = new World();
        // Of the MERCHANT to be saved, FAIR by FAIR: its CASH ahead of it, by how much it was SHORT there, if it was.
        private final int[] cashAt = new int[AHEAD];
        private final int[] shortAt = new int[AHEAD];
        private int held;

        void start(World now) {
            world.copyFrom(now);
        }

        void go(Book book, int n) {
            for (int i = 0; i < n; i++) world.holdOne(book, false);
        }

        int brokenBehind(Book book, World now, int n) {
            start(now);
            go(book, n);
            return world.broken;
        }

        int brokenBesides(Book book, World now, int m, int n) {
            start(now);
            go(book, n);
            int anyhow = world.broken;
            start(now);
            world.breakDown(m);
            go(book, n);
            return world.broken & ~anyhow & ~(1 << m);
        }

        int leastSaving(Book book, World now, int m, int n) {
            int more = 0;
            for (int tries = 0; tries <= MOST_SAVING && more <= MOST_SAVING; tries++) {
                start(now);
                world.addCash(m, more);
                goTillBroken(book, m, n);
                if (!world.isBroken(m)) return more;
                more += alike(book, now.fair, m);
            }
            return NONE;
        }

        private void goTillBroken(Book book, int m, int n) {
            held = 0;
            for (int i = 0; i < n && !world.isBroken(m); i++) {
                set(cashAt, i, at(world.cash, m));
                world.holdOne(book, false);
                set(shortAt, i, at(world.shortBy, m));
                held = i + 1;
            }
        }

        // So many coppers more, one at least, and not all goes as it did till m broke: others don't mind the cash of m,
        // so fewer than that make it SHORT, and give it TIME, where they did, and it breaks again.
        private int alike(Book book, int fair, int m) {
            int least = MOST_SAVING + 1;
            for (int i = 0; i < held; i++) if (at(shortAt, i) > 0) least = Math.min(least, at(shortAt, i));
            if (!book.timeMindsCash()) return least;
            for (int more = 1; more < least; more++) if (!goesAlike(book, fair, m, more)) return more;
            return least;
        }

        private boolean goesAlike(Book book, int fair, int m, int more) {
            for (int i = 0; i < held; i++) {
                int shortBy = at(shortAt, i);
                if (shortBy <= 0) continue;
                boolean time = book.tell(true, fair + i, m, at(cashAt, i) + more, shortBy - more) != 0;
                if (time != (i < held - 1)) return false;
            }
            return true;
        }
    }

    /** This FAIR, were letters late or not there. */
    private static final class Guess {
        private final World world = new World();
        private final int[] uncertain = new int[LETTERS];
        // CASH behind this FAIR, were a letter not there: a row of all merchants for each letter.
        private final int[] cashWithout = new int[LETTERS * MERCHANTS];

        int breakHere(Book book, World now, int alone) {
            world.copyFrom(now);
            if (now.hasLetter(alone)) world.delay(alone);
            world.holdOne(book, false);
            return world.broken & ~now.broken;
        }

        // That m BREAKS here; of NONE: that nobody does.
        int odds(Book book, World now, int m) {
            int many = 0;
            long whole = 1;
            for (int l = 0; l < now.letters; l++) {
                if (!now.isDue(l, now.fair) || at(now.late, l) <= 0) continue;
                set(uncertain, many, l);
                many++;
                whole *= 10;
            }
            long sum = 0;
            for (int lates = 0; lates < 1 << many; lates++) {
                world.copyFrom(now);
                long weight = delaySome(now, many, lates);
                world.holdOne(book, false);
                int fresh = world.broken & ~now.broken;
                boolean so = m == NONE ? fresh == 0 : (fresh >> m & 1) != 0;
                if (so) sum += weight;
            }
            return (int) cut(sum * 10000, whole);
        }

        private long delaySome(World now, int many, int lates) {
            long weight = 1;
            for (int i = 0; i < many; i++) {
                int l = at(uncertain, i);
                int likely = at(now.late, l);
                boolean isLate = (lates >> i & 1) != 0;
                weight *= isLate ? likely : 10 - likely;
                if (isLate) world.delay(l);
            }
            return weight;
        }

        int explaining(Book book, World now, Tray seen) {
            int bits = 0;
            for (int l = 0; l < now.letters; l++) {
                if (!now.isDue(l, now.fair)) continue;
                world.copyFrom(now);
                set(world.state, l, World.VOID);
                world.holdOne(book, false);
                boolean fits = true;
                for (int m = 0; m < now.merchants; m++) {
                    int cash = at(world.cash, m);
                    set(cashWithout, l * MERCHANTS + m, cash);
                    if (seen.get(m) != NONE && seen.get(m) != cash) fits = false;
                }
                if (fits) bits |= 1 << l;
            }
            return bits;
        }

        // Of the letters that explaining() told just now.
        int tellsMost(int bits, int merchants) {
            int best = NONE;
            int least = LETTERS + 1;
            for (int m = 0; m < merchants; m++) {
                int many = mostAlike(bits, m);
                if (many < least) {
                    least = many;
                    best = m;
                }
            }
            return best;
        }

        private int mostAlike(int bits, int m) {
            int most = 0;
            for (int l = 0; l < LETTERS; l++) {
                if ((bits >> l & 1) == 0) continue;
                int alike = 0;
                for (int k = 0; k < LETTERS; k++) {
                    boolean same = at(cashWithout, k * MERCHANTS + m) == at(cashWithout, l * MERCHANTS + m);
                    if ((bits >> k & 1) != 0 && same) alike++;
                }
                most = Math.max(most, alike);
            }
            return most;
        }
    }

    /** All rings of letters DUE here, each told from its lowest letter on, in the order of their letters. */
    private static final class RingSearch {
        private static final int LONGEST = 6;

        int found;
        int bestSum;
        int bestLength;
        final int[] best = new int[LONGEST];
        private final int[] path = new int[LONGEST];

        void search(World world) {
            found = 0;
            bestSum = 0;
            bestLength = 0;
            for (int l = 0; l < world.letters; l++) {
                if (!world.isDue(l, world.fair)) continue;
                set(path, 0, l);
                extend(this, world, 1, 1 << l, at(world.much, l));
            }
        }

        private static void extend(RingSearch rings, World world, int length, int used, int least) {
            int first = at(rings.path, 0);
            int end = at(world.whom, at(rings.path, length - 1));
            if (end == at(world.owes, first)) rings.note(length, least);
            if (length >= LONGEST) return;
            for (int l = first + 1; l < world.letters; l++) {
                if ((used >> l & 1) != 0 || at(world.owes, l) != end || !world.isDue(l, world.fair)) continue;
                set(rings.path, length, l);
                extend(rings, world, length + 1, used | 1 << l, Math.min(least, at(world.much, l)));
            }
        }

        private void note(int length, int least) {
            found++;
            if (least * length <= bestSum) return;
            bestSum = least * length;
            bestLength = length;
            copyRow(path, best);
        }
    }

    /** Changing moneys from fair to fair. */
    private static final class Exchange {
        static final int FAIRS = 10;
        private static final long MOST_COINS = 1000000000L;

        long most;
        final int[] had = new int[FAIRS];
        private final int[] worths = new int[FAIRS * MONEYS];
        private final int[] coinsOf = new int[MONEYS];
        private final int[] changedTo = new int[MONEYS];
        private int moneys;
        private int last;

        void plan(Book book, int fair, int money, int coins, int n) {
            moneys = book.moneys;
            last = n;
            for (int f = 0; f <= n; f++) {
                for (int j = 0; j < moneys; j++) set(worths, f * MONEYS + j, book.coppers(j, fair + f));
            }
            most = mostFrom(0, money, coins);
            int sum = coins;
            int mine = money;
            for (int f = 0; f <= n; f++) {
                for (int j = 0; j < moneys; j++) {
                    int into = changed(f, mine, sum, j);
                    if (mostFrom(f + 1, j, into) != most) continue;
                    mine = j;
                    sum = into;
                    break;
                }
                set(had, f, mine);
            }
        }

        private int changed(int f, int money, int coins, int into) {
            if (money == into) return coins;
            long coppers = (long) coins * at(worths, f * MONEYS + money);
            return (int) Math.min(MOST_COINS, cut(coppers, at(worths, f * MONEYS + into)));
        }

        // More coins never change into fewer, so of each money the most that can be had is enough to know.
        private long mostFrom(int first, int money, int coins) {
            for (int j = 0; j < moneys; j++) set(coinsOf, j, j == money ? coins : 0);
            for (int f = first; f <= last; f++) changeAll(f);
            long best = 0;
            for (int j = 0; j < moneys; j++) {
                best = Math.max(best, (long) at(coinsOf, j) * at(worths, last * MONEYS + j));
            }
            return best;
        }

        private void changeAll(int f) {
            for (int into = 0; into < moneys; into++) {
                int best = 0;
                for (int j = 0; j < moneys; j++) best = Math.max(best, changed(f, j, at(coinsOf, j), into));
                set(changedTo, into, best);
            }
            copyRow(changedTo, coinsOf);
        }
    }
}
