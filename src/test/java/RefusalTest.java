import java.util.function.Supplier;
import java.util.function.ToIntFunction;

/**
 * Each refusal of each call: alone, beside another one (of several the first of UNKNOWN, OUTSIDE, NOT, FULL),
 * and that what is refused changes nothing, as two objects tell of which only one was asked.
 */
public final class RefusalTest extends Check {
    // All of them for a flag of 4 strips, 5 seams, 3 colours; the later ones would slip through a shift.
    private static final int[] NO_STRIP = {-1, 4, 5, 7, 8, 31, 32, 35, 64, LOW, HIGH};
    private static final int[] NO_SEAM = {-1, 5, 6, 11, 12, 31, 32, 36, 64, LOW, HIGH};
    private static final int[] NO_COLOUR = {-1, 3, 4, 31, 32, 34, LOW, HIGH};
    private static final int[] NO_STRIPS = {16, 17, 31, 128, 256, 1 << 30, -1, -16, LOW, HIGH};
    private static final int[] NO_COLOURS = {8, 9, 15, 16, 1 << 30, -1, -8, LOW, HIGH};
    private static final int[] NO_IMAGE = {-1, 2, 3, 31, 32, 33, LOW, HIGH};

    public static void main(String[] args) {
        numbersOfBytes();
        whatIsTold();
        windsAndYears();
        unpicking();
        sewing();
        lasting();
        odds();
        turns();
        saint();
        book();
        seedAndImages();
        faultyText();
        end("RefusalTest");
    }

    /** Something of all that there is, and nothing as it was at first. */
    private static StripFlag rich() {
        StripFlag x = made(FLAG);
        tell(x, "colours 1;hem 1;");
        x.flag();
        x.seed(99);
        x.hem(3, true);
        x.sew(1, 6);
        x.dye(0, 2);
        x.left(2, 5);
        x.keep(0);
        x.sew(0, 8);
        x.hem(4, true);
        x.seed(1234567);
        x.dye(1, 0);
        x.keep(1);
        x.write(0, 4);
        x.write(3, 2);
        x.write(1, 0);
        x.sew(1, 0);
        x.hem(4, false);
        x.left(0, 3);
        tell(x, "colours 7,8;strip 1;pole 0 4;");
        return x;
    }

    private static void refused(String call, int want, ToIntFunction<StripFlag> asked) {
        refused(RefusalTest::rich, call, want, asked);
    }

    private static void refused(Supplier<StripFlag> given, String call, int want, ToIntFunction<StripFlag> asked) {
        StripFlag x = given.get(), y = given.get();
        due(call, asked.applyAsInt(x), want);
        same("behind " + call, seenToTheEnd(x), seenToTheEnd(y));
    }

    private static void numbersOfBytes() {
        for (int n : outside(1, 8)) refused("feed " + n, OUTSIDE, x -> x.feed(n, 0x3b3b3b3b3b3b3b3bL));
        for (int fed = 493; fed <= 500; fed++) {
            int room = 500 - fed;
            Supplier<StripFlag> given = full(fed);
            for (int n = room + 1; n <= 8; n++) {
                int many = n;
                refused(given, "feed " + n + " behind " + fed, FULL, x -> x.feed(many, 0x3b3b3b3b3b3b3b3bL));
            }
            for (int n : outside(1, 8)) refused(given, "feed " + n + " behind " + fed, OUTSIDE, x -> x.feed(n, 0));
            if (room > 0) due("feed all the room", given.get().feed(room, 0x2020202020202020L), 500);
        }
    }

    /** A text of so many bytes, which is a flag. */
    private static Supplier<StripFlag> full(int fed) {
        return () -> {
            StripFlag x = new StripFlag();
            tell(x, "colours 3,4;strip 1;pole 0 2;" + times(fed - 29, " "));
            due("bytes fed", x.told(4), fed);
            return x;
        };
    }

    private static void whatIsTold() {
        for (int what : outside(0, 8)) refused("told " + what, OUTSIDE, x -> x.told(what));
        for (int what : outside(0, 3)) {
            refused("seam 4 " + what, OUTSIDE, x -> x.seam(4, what));
            refused("strip 3 " + what, OUTSIDE, x -> x.strip(3, what));
        }
        for (int s : NO_SEAM) {
            for (int what = 0; what < 4; what++) {
                int which = what;
                due("seam " + s, rich().seam(s, which), UNKNOWN);
            }
            refused("seam " + s, UNKNOWN, x -> x.seam(s, 0));
            for (int what : outside(0, 3)) due("seam " + s + " " + what, rich().seam(s, what), UNKNOWN);
        }
        for (int a : NO_STRIP) {
            for (int what = 0; what < 4; what++) due("strip " + a, rich().strip(a, what), UNKNOWN);
            refused("strip " + a, UNKNOWN, x -> x.strip(a, 0));
            for (int what : outside(0, 3)) due("strip " + a + " " + what, rich().strip(a, what), UNKNOWN);
        }
    }

    private static void windsAndYears() {
        for (int w : outside(0, 9)) {
            refused("flies " + w, OUTSIDE, x -> x.flies(w));
            refused("fray " + w, OUTSIDE, x -> x.fray(w));
        }
        for (int n : outside(1, 99)) {
            refused("drift " + n, OUTSIDE, x -> x.drift(n));
            refused(StripFlag::new, "drift " + n + " without strips", OUTSIDE, x -> x.drift(n));
            refused(() -> made("colours 1;"), "drift " + n + " of colours alone", OUTSIDE, x -> x.drift(n));
        }
        for (int n = 1; n < 100; n += 49) {
            int years = n;
            refused(StripFlag::new, "drift " + n + " of nothing", NOT, x -> x.drift(years));
            refused(() -> made("colours 1;"), "drift " + n + " of colours alone", NOT, x -> x.drift(years));
        }
    }

    private static void unpicking() {
        for (int a : NO_STRIP) {
            for (int s = 0; s < 5; s++) due("unpick " + a + " " + s, rich().unpick(a, s), UNKNOWN);
            for (int s : NO_SEAM) due("unpick " + a + " " + s, rich().unpick(a, s), UNKNOWN);
            refused("unpick " + a, UNKNOWN, x -> x.unpick(a, 0));
        }
        for (int s : NO_SEAM) {
            for (int a = 0; a < 4; a++) due("unpick " + a + " " + s, rich().unpick(a, s), UNKNOWN);
            refused("unpick seam " + s, UNKNOWN, x -> x.unpick(2, s));
        }
        // Sewn are 0 pole-0, 2 1-2, 3 0-2 with a hem, 4 2-3.
        int[][] not = {{2, 1}, {3, 3}, {0, 0}, {0, 3}, {2, 3}, {1, 2}, {2, 2}, {2, 4}, {3, 4}, {3, 0}, {1, 0}, {3, 1}};
        for (int[] as : not) refused("unpick " + as[0] + " " + as[1], NOT, x -> x.unpick(as[0], as[1]));
        int[][] may = {{2, 0}, {0, 2}, {0, 4}, {1, 4}, {3, 2}};
        for (int[] as : may) due("unpick " + as[0] + " " + as[1], rich().unpick(as[0], as[1]), 3);
    }

    private static void sewing() {
        for (int s : NO_SEAM) {
            refused("sew " + s, UNKNOWN, x -> x.sew(s, 5));
            for (int n : outside(0, 9)) refused("sew " + s + " " + n, UNKNOWN, x -> x.sew(s, n));
            refused("hem " + s, UNKNOWN, x -> x.hem(s, true));
            refused("hem off " + s, UNKNOWN, x -> x.hem(s, false));
        }
        for (int n : outside(0, 9)) refused("sew 4 " + n, OUTSIDE, x -> x.sew(4, n));
        for (int a : NO_STRIP) {
            refused("dye " + a, UNKNOWN, x -> x.dye(a, 2));
            for (int k : NO_COLOUR) refused("dye " + a + " " + k, UNKNOWN, x -> x.dye(a, k));
        }
        for (int k : NO_COLOUR) refused("dye 3 " + k, UNKNOWN, x -> x.dye(3, k));
    }

    private static void lasting() {
        for (int a : NO_STRIP) {
            refused("cut " + a, UNKNOWN, x -> x.cut(a, 0));
            for (int what : outside(0, 1)) due("cut " + a + " " + what, rich().cut(a, what), UNKNOWN);
        }
        for (int what : outside(0, 1)) refused("cut 3 " + what, OUTSIDE, x -> x.cut(3, what));
        for (int set : NO_STRIPS) {
            refused("lasts " + set, UNKNOWN, x -> x.lasts(set, 0));
            refused("hems " + set, UNKNOWN, x -> x.hems(set, 1));
            for (int n : outside(0, 3)) due("lasts " + set + " " + n, rich().lasts(set, n), UNKNOWN);
            for (int n : outside(1, 2)) due("hems " + set + " " + n, rich().hems(set, n), UNKNOWN);
        }
        for (int n : outside(0, 3)) refused("lasts 15 " + n, OUTSIDE, x -> x.lasts(15, n));
        for (int n : outside(1, 2)) refused("hems 15 " + n, OUTSIDE, x -> x.hems(15, n));
        for (int n : outside(0, 2)) {
            refused("thread " + n, OUTSIDE, x -> x.thread(n, 0));
            for (int what : outside(0, 1)) due("thread " + n + " " + what, rich().thread(n, what), OUTSIDE);
        }
        for (int what : outside(0, 1)) refused("thread 2 " + what, OUTSIDE, x -> x.thread(2, what));
    }

    private static void odds() {
        for (int a : NO_STRIP) {
            refused("odds " + a, UNKNOWN, x -> x.odds(a, 50));
            for (int q : outside(0, 100)) due("odds " + a + " " + q, rich().odds(a, q), UNKNOWN);
        }
        for (int q : outside(0, 100)) refused("odds 3 " + q, OUTSIDE, x -> x.odds(3, q));
    }

    private static void turns() {
        for (int a : NO_STRIP) {
            refused("turnsOf " + a + " 0", UNKNOWN, x -> x.turnsOf(a, 0, 2, 0));
            refused("turnsOf 0 " + a, UNKNOWN, x -> x.turnsOf(0, a, 2, 0));
            for (int b : NO_STRIP) due("turnsOf " + a + " " + b, rich().turnsOf(a, b, 2, 0), UNKNOWN);
            for (int n : outside(0, 4)) {
                due("turnsOf " + a + " 0 " + n, rich().turnsOf(a, 0, n, 0), UNKNOWN);
                due("turnsOf 0 " + a + " " + n, rich().turnsOf(0, a, n, 7), UNKNOWN);
            }
            for (int what : outside(0, 1)) due("turnsOf " + a + " 0 2 " + what, rich().turnsOf(a, 0, 2, what), UNKNOWN);
        }
        for (int a = 0; a < 4; a++) {
            int both = a;
            refused("turnsOf one twice", UNKNOWN, x -> x.turnsOf(both, both, 0, 0));
            due("turnsOf one twice, n outside", rich().turnsOf(a, a, 5, 0), UNKNOWN);
            due("turnsOf one twice, what outside", rich().turnsOf(a, a, 4, 2), UNKNOWN);
        }
        for (int n : outside(0, 4)) {
            refused("turnsOf n " + n, OUTSIDE, x -> x.turnsOf(0, 3, n, 1));
            for (int what : outside(0, 1)) due("turnsOf " + n + " " + what, rich().turnsOf(0, 3, n, what), OUTSIDE);
        }
        for (int what : outside(0, 1)) refused("turnsOf what " + what, OUTSIDE, x -> x.turnsOf(0, 3, 4, what));
    }

    private static void saint() {
        for (int a : NO_STRIP) {
            if (a != NONE) refused("colours " + a, UNKNOWN, x -> x.colours(a));
            refused("sure " + a, UNKNOWN, x -> x.sure(a));
            refused("left " + a, UNKNOWN, x -> x.left(a, 1));
            for (int set : NO_COLOURS) refused("left " + a + " " + set, UNKNOWN, x -> x.left(a, set));
        }
        refused("colours -2", UNKNOWN, x -> x.colours(-2));
        for (int set : NO_COLOURS) refused("left 3 " + set, UNKNOWN, x -> x.left(3, set));
    }

    private static void book() {
        Supplier<StripFlag> full = () -> {
            StripFlag x = made(FLAG);
            for (int i = 0; i < 30; i++) x.write(i % 4, i % 5);
            return x;
        };
        for (int a : NO_STRIP) {
            refused("write " + a, UNKNOWN, x -> x.write(a, 0));
            refused(full, "write " + a + " behind 30", UNKNOWN, x -> x.write(a, 0));
            for (int s : NO_SEAM) due("write " + a + " " + s, rich().write(a, s), UNKNOWN);
        }
        for (int s : NO_SEAM) {
            refused("write seam " + s, UNKNOWN, x -> x.write(3, s));
            refused(full, "write seam " + s + " behind 30", UNKNOWN, x -> x.write(3, s));
        }
        for (int a = 0; a < 4; a++) {
            int one = a;
            refused(full, "write behind 30", FULL, x -> x.write(one, 4));
        }
    }

    private static void seedAndImages() {
        for (int v : new int[] {-1, -2, -HIGH, LOW}) refused("seed " + v, OUTSIDE, x -> x.seed(v));
        for (int i : NO_IMAGE) {
            refused("keep " + i, UNKNOWN, x -> x.keep(i));
            refused("goBack " + i, UNKNOWN, x -> x.goBack(i));
            refused(StripFlag::new, "goBack " + i + " when none is kept", UNKNOWN, x -> x.goBack(i));
        }
        for (int i = 0; i < 2; i++) {
            int one = i, other = 1 - i;
            refused(StripFlag::new, "goBack " + i + " when none is kept", NOT, x -> x.goBack(one));
            refused(() -> onlyKept(other), "goBack " + i + " when only the other is kept", NOT, x -> x.goBack(one));
        }
    }

    private static StripFlag onlyKept(int i) {
        StripFlag x = made(FLAG);
        x.keep(i);
        x.hem(1, true);
        x.sew(0, 0);
        x.seed(5);
        x.dye(0, 1);
        return x;
    }

    /** flag() with a FAULT: all else is as it was, but THE TEXT is empty. */
    private static void faultyText() {
        String much = "colours 1,2,3,4;" + times(8, "strip 3;") + times(11, "pole 7 9;") + times(8, "could 0 0 1;");
        String[] faulty = {much + "hem", much + "seam 0 1 0;", much + "colours 1;", much + "seam 0 0 1;", much + "seam 0 1 ", "strip"};
        int[] want = {-11, -12, -13, -14, -11, -11};
        for (int i = 0; i < faulty.length; i++) {
            StripFlag x = rich(), y = rich();
            x.flag();
            x = again(x);
            String was = seen(x);
            tell(x, faulty[i]);
            due("flag() of " + faulty[i], x.flag(), want[i]);
            due("the text is empty", x.told(4), 0);
            same("behind flag() of " + faulty[i], seen(x), was);
            // The place is that of the FAULT that the text had, so a text without one is told to both before the last look.
            y.flag();
            y = again(y);
            same("to the end", seenToTheEnd(told(x)), seenToTheEnd(told(y)));
        }
    }

    /** A rich state behind another flag, so that the row of an older text stands in the object, too. */
    private static StripFlag again(StripFlag x) {
        tell(x, FLAG);
        x.flag();
        x.hem(2, true);
        x.sew(3, 0);
        x.dye(3, 1);
        x.left(1, 2);
        x.seed(777);
        x.keep(0);
        x.write(0, 4);
        x.keep(1);
        x.sew(3, 9);
        return x;
    }

    private static StripFlag told(StripFlag x) {
        tell(x, "x");
        due("flag() of x", x.flag(), -11);
        return x;
    }
}
