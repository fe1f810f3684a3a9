/** All that can be seen of an object, asked so that nothing changes by it. */
final class Whole {
    private Whole() {
    }

    /** What undoing and images bring back, but x. */
    static long[] now(Counted x) {
        int merchants = x.count(2);
        int letters = x.count(4);
        long[] all = new long[8 + merchants * 2 + letters * 6];
        int at = 0;
        for (int what : new int[] {0, 1, 3, 6, 10}) all[at++] = x.count(what);
        all[at++] = merchants;
        all[at++] = letters;
        all[at++] = x.worth(0, 0);
        for (int m = 0; m < merchants; m++) {
            for (int what = 0; what < 2; what++) all[at++] = x.merchant(m, what);
        }
        for (int l = 0; l < letters; l++) {
            for (int what = 0; what < 6; what++) all[at++] = x.letter(l, what);
        }
        return all;
    }

    static void same(String what, long[] got, long[] want) {
        Check.due(what + ": length", got.length, want.length);
        for (int i = 0; i < Math.min(got.length, want.length); i++) Check.due(what + ": number " + i, got[i], want[i]);
    }
}
