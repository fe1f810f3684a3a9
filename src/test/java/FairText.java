import java.util.Random;

/** Texts drawn at random: most of them good, some with a fault put in. */
final class FairText {
    private final Random random;
    private final StringBuilder text = new StringBuilder();

    FairText(Random random) {
        this.random = random;
    }

    private int upTo(int n) {
        return random.nextInt(n + 1);
    }

    private boolean oneIn(int n) {
        return random.nextInt(n) == 0;
    }

    private void put(String token) {
        boolean both = text.length() > 0 && Character.isLetterOrDigit(text.charAt(text.length() - 1))
            && Character.isLetterOrDigit(token.charAt(0));
        if (both || oneIn(4)) text.append(oneIn(12) ? "\n" : " ");
        text.append(token);
    }

    private void put(int n) {
        put(oneIn(30) && n < 100 ? "0" + n : "" + n);
    }

    private void sum(int deep, boolean time) {
        term(deep, time);
        while (oneIn(3)) {
            put(oneIn(2) ? "+" : "-");
            term(deep, time);
        }
    }

    private void term(int deep, boolean time) {
        atom(deep, time);
        while (oneIn(4)) {
            put("*");
            atom(deep, time);
        }
    }

    private void atom(int deep, boolean time) {
        int sort = upTo(time ? 7 : 6);
        if (sort == 0 && deep < 6) {
            put("(");
            sum(deep + 1, time);
            put(")");
        } else if (sort == 1) {
            put("fair");
        } else if (sort == 2) {
            put("year");
        } else if (sort == 3 || sort == 4) {
            put(time ? sort == 3 ? "who" : "cash" : "money");
        } else if (sort == 7) {
            put("short");
        } else {
            put(oneIn(2) ? upTo(9) : upTo(999));
        }
    }

    private void truth(int deep) {
        both(deep);
        while (oneIn(4)) {
            put("or");
            both(deep);
        }
    }

    private void both(int deep) {
        unit(deep);
        while (oneIn(4)) {
            put("and");
            unit(deep);
        }
    }

    private void unit(int deep) {
        if (oneIn(5) && deep < 6) {
            put("not");
            unit(deep + 1);
        } else if (oneIn(6) && deep < 6) {
            put("[");
            truth(deep + 1);
            put("]");
        } else {
            sum(deep, true);
            put(oneIn(3) ? "=" : oneIn(2) ? "<" : ">");
            sum(deep, true);
        }
    }

    private void law(boolean time) {
        put(time ? "time" : "worth");
        put(":");
        if (time) truth(0);
        else sum(0, false);
        put(";");
    }

    private void letter(int merchants, int most, int dues) {
        put("letter");
        int owes = random.nextInt(merchants);
        put(owes);
        put("to");
        put((owes + 1 + random.nextInt(merchants - 1)) % merchants);
        put("of");
        put(1 + random.nextInt(most));
        put("at");
        put(random.nextInt(dues));
        if (oneIn(3)) {
            put("late");
            put(upTo(9));
        }
        put(";");
    }

    String good() {
        text.setLength(0);
        put("fairs");
        put(1 + random.nextInt(6));
        put("moneys");
        put(1 + random.nextInt(4));
        put(";");
        int merchants = oneIn(10) ? upTo(6) : 2 + random.nextInt(5);
        int most = oneIn(3) ? 9 : oneIn(2) ? 60 : 999;
        int dues = oneIn(3) ? 1 : oneIn(2) ? 4 : 21;
        for (int i = 0; i < merchants; i++) {
            put("merchant");
            put(random.nextInt(oneIn(3) ? 2 * most > 999 ? 1000 : 2 * most : most / 2 + 1));
            put(";");
        }
        if (oneIn(2)) law(true);
        int letters = merchants < 2 ? 0 : oneIn(2) ? 12 : upTo(12);
        for (int i = 0; i < letters; i++) letter(merchants, most, dues);
        if (!oneIn(3)) law(false);
        if (oneIn(3)) law(true);
        if (oneIn(3)) {
            put("fair");
            put(upTo(999));
            put(";");
        }
        return text.toString();
    }

    String faulty() {
        StringBuilder s = new StringBuilder(good());
        String signs = ";:+-*()[]=<>0123456789 \n.A%fartomwn";
        String[] words = {"not ", "[", "(", "1234", " late ", "merchant 1;", "letter 0 to 1 of 1 at 0;", "fairs ",
            " who ", " money ", " short ", " 0", "999", "not not not not ", "((((", "[[[[", "worth:", "time:"};
        int times = 1 + random.nextInt(2);
        for (int i = 0; i < times; i++) {
            int at = random.nextInt(s.length() + 1);
            int sort = random.nextInt(6);
            if (sort == 0 && at < s.length()) s.deleteCharAt(at);
            else if (sort == 1) s.setLength(at);
            else if (sort == 2) s.insert(at, words[random.nextInt(words.length)]);
            else if (sort == 3) s.insert(at, (char) random.nextInt(256));
            else if (at < s.length()) s.setCharAt(at, signs.charAt(random.nextInt(signs.length())));
        }
        return s.toString();
    }
}
