/** What the tests share: how a text is fed, how an answer is counted, how all that can be seen is written down. */
class Check {
    static final int NONE = -1, UNKNOWN = -1000000001, OUTSIDE = -1000000002, NOT = -1000000003, FULL = -1000000004;
    static final int LOW = Integer.MIN_VALUE, HIGH = Integer.MAX_VALUE;

    /*
     * Strip 0 at the pole, 1 and 2 sewn to it and to one another, 3 to 2 alone.
     * Seams: 0 pole-0 (5), 1 0-1 (3), 2 1-2 (4), 3 0-2 (2), 4 2-3 (1).
     */
    static final String FLAG = "colours 5,2,9;strip 0;strip 1;strip 0;strip 2;pole 0 5;seam 0 1 3;seam 1 2 4;"
        + "seam 0 2 2;seam 2 3 1;could 3 3 7;could 1 3 4;could 1 1 5;";

    private static int right;
    private static int wrong;

    static void due(String call, long got, long want) {
        if (got == want) {
            right++;
        } else {
            wrong++;
            System.out.println(call + " answered " + got + ", due is " + want);
        }
    }

    static void same(String call, String got, String want) {
        if (got.equals(want)) {
            right++;
        } else {
            wrong++;
            System.out.println(call + ": it is\n  " + got + "\ndue is\n  " + want);
        }
    }

    static void end(String name) {
        System.out.println(name + ": " + right + " answers as due, " + wrong + " not");
        if (wrong > 0 || right == 0) System.exit(1);
    }

    static void tell(StripFlag x, String text) {
        for (int i = 0; i < text.length(); i += 8) {
            int n = Math.min(8, text.length() - i);
            long bytes = 0;
            for (int j = 0; j < n; j++) bytes = bytes << 8 | text.charAt(i + j);
            x.feed(n, bytes);
        }
    }

    static StripFlag made(String text) {
        StripFlag x = new StripFlag();
        tell(x, text);
        int n = x.flag();
        if (n < 0) due("flag() of '" + text + "'", n, 0);
        return x;
    }

    /** What text answers: FAULT number (0 none) and place. */
    static void reads(String text, int number, int place) {
        StripFlag x = new StripFlag();
        tell(x, text);
        int got = x.flag();
        due("3 flag of '" + text + "'", got < 0 ? -10 - got : 0, number);
        due("4 fault of '" + text + "'", x.fault(), place);
    }

    static String times(int n, String s) {
        return s.repeat(n);
    }

    /** THE SEED, which only a change tells: it is put back. */
    static int seedOf(StripFlag x) {
        int v = x.seed(0);
        x.seed(v);
        return v;
    }

    /** All that can be seen of the flag, THE BOOK and THE SEED, without THE TEXT and the latest FAULT. */
    static String seen(StripFlag x) {
        StringBuilder all = new StringBuilder();
        for (int what = 0; what < 9; what++) if (what != 4) all.append(x.told(what)).append(' ');
        for (int s = 0; s < x.told(2); s++) {
            all.append("| ");
            for (int what = 0; what < 4; what++) all.append(x.seam(s, what)).append(' ');
            // By a hem on each seam in turn THE BOOK tells its first entry of that seam.
            int had = x.hem(s, true);
            all.append('j').append(x.judge()).append(' ');
            x.hem(s, had == 1);
        }
        for (int a = 0; a < x.told(1); a++) {
            all.append("/ ");
            for (int what = 0; what < 4; what++) all.append(x.strip(a, what)).append(' ');
        }
        return all.append("t").append(x.thread(2, 1)).append(" s").append(seedOf(x)).append(' ').toString();
    }

    /** All that can be seen at all; the object is used up by it. */
    static String seenToTheEnd(StripFlag x) {
        StringBuilder all = new StringBuilder();
        all.append(x.told(4)).append(' ').append(x.fault()).append(' ').append(seen(x));
        for (int i = 0; i < 2; i++) all.append("\n  image ").append(x.goBack(i)).append(' ').append(seen(x));
        all.append("\n  text ").append(x.flag()).append(' ').append(x.fault()).append(' ').append(seen(x));
        return all.toString();
    }

    /** Numbers that a bound of low .. high keeps out, next to it and far. */
    static int[] outside(int low, int high) {
        return new int[] {low - 1, high + 1, low - 32, high + 32, high + 256, LOW, HIGH};
    }
}
