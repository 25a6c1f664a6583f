import java.util.Random;

/** Calls with any numbers at all, in any order: none may throw, and none may run on without end. */
public final class RoughTest {
    private static final int[] EDGES = {Integer.MIN_VALUE, -1000000005, -2, -1, 0, 1, 2, 3, 4, 5, 7, 8, 9, 10, 11, 12, 13, 30, 31,
        32, 33, 63, 64, 99, 100, 101, 255, 256, 499, 500, 501, 4095, 4096, 1 << 30, Integer.MAX_VALUE};
    private static final String[] TEXTS = {"", "colours 1,2,3,4;", "colours 0;strip 0;pole 0 9;",
        "colours 1,2;strip 0;strip 1;strip 0;strip 1;strip 0;strip 1;strip 0;strip 1;pole 0 1;pole 7 2;seam 0 1 3;seam 1 2 4;"
            + "seam 2 3 5;seam 3 4 6;seam 4 5 7;seam 5 6 8;seam 6 7 9;seam 0 2 1;seam 5 7 1;seam 7 0 1;could 0 7 3;could 2 5 9;"
            + "could 3 3 1;could 0 0 0;could 1 1 1;could 2 2 2;could 4 4 4;could 5 6 99;",
        "colours 9,0,5;strip 2;strip 1;seam 1 0 2;could 0 0 1;", "colours 1;strip 0;strip 9;"};

    public static void main(String[] args) {
        Random random = new Random(20261118);
        long sum = 0;
        for (int run = 0; run < 1500; run++) {
            StripFlag x = new StripFlag();
            int calls = 0;
            while (calls < 440) {
                if (random.nextInt(40) == 0) {
                    String text = TEXTS[random.nextInt(TEXTS.length)];
                    for (int i = 0; i < text.length(); i++) {
                        // One byte a call would soon use up the calls, so eight at a time where there are as many.
                        int n = Math.min(8, text.length() - i);
                        long bytes = 0;
                        for (int j = 0; j < n; j++) bytes = bytes << 8 | text.charAt(i + j);
                        x.feed(n, bytes);
                        calls++;
                        i += n - 1;
                    }
                    sum += x.flag();
                    calls++;
                }
                sum += call(x, random);
                calls++;
            }
        }
        System.out.println("RoughTest: nothing was thrown (" + sum + ")");
    }

    private static int any(Random random) {
        int kind = random.nextInt(10);
        if (kind == 0) return random.nextInt();
        if (kind < 7) return random.nextInt(9);
        return EDGES[random.nextInt(EDGES.length)];
    }

    private static int call(StripFlag x, Random random) {
        int a = any(random), b = any(random), c = any(random), d = any(random);
        switch (random.nextInt(29)) {
            case 0: return x.feed(a, random.nextLong());
            case 1: return random.nextInt(5) == 0 ? x.flag() : 0;
            case 2: return x.fault();
            case 3: return x.told(a);
            case 4: return x.seam(a, b);
            case 5: return x.strip(a, b);
            case 6: return x.flies(a);
            case 7: return x.unpick(a, b);
            case 8: return x.sew(a, b);
            case 9: return x.hem(a, b % 2 == 0);
            case 10: return x.fray(a);
            case 11: return x.dye(a, b);
            case 12: return x.drift(a);
            case 13: return x.cut(a, b);
            case 14: return x.lasts(a, b);
            case 15: return x.hems(a, b);
            case 16: return x.thread(a, b);
            case 17: return x.odds(a, b);
            case 18: return x.turnsOf(a, b, c, d);
            case 19: return x.colours(a);
            case 20: return x.left(a, b);
            case 21: return x.fits();
            case 22: return x.sure(a);
            case 23: return x.write(a, b);
            case 24: return x.tear();
            case 25: return x.judge();
            case 26: return x.seed(a);
            case 27: return x.keep(a);
            default: return x.goBack(a);
        }
    }
}
