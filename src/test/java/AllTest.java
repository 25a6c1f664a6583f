/** All that there may be: 500 bytes, 4 colours, 8 strips, 12 seams, 8 'could', 30 entries, 2 images; and one more. */
public final class AllTest extends Check {
    private static final String COLOURS = "colours 99,0,1,98;";
    private static final String STRIPS = "strip 0;strip 1;strip 2;strip 3;strip 0;strip 1;strip 2;strip 3;";

    /*
     * A chain of 8 with both ends at the pole (seams 0 to 8), its ends sewn to one another (9), its strip 3 at the
     * pole (10) and twice at strip 4 (11).
     */
    private static final String SEAMS = "pole 0 1;seam 0 1 2;seam 1 2 3;seam 2 3 4;seam 3 4 5;seam 4 5 6;seam 5 6 7;"
        + "seam 6 7 8;pole 7 9;seam 0 7 9;pole 3 9;seam 4 3 9;";
    private static final String COULDS = "could 1 1 10;could 2 2 9;could 1 2 0;could 5 6 1;could 5 5 99;could 6 6 20;"
        + "could 1 5 30;could 2 6 25;";
    private static final String WHOLE = COLOURS + STRIPS + SEAMS + COULDS;

    public static void main(String[] args) {
        bytes();
        oneMore();
        told();
        flying();
        done();
        thePoleIsNoEnd();
        cuts();
        hemsAndThread();
        odds();
        turns();
        coloursAndSaint();
        book();
        years();
        imagesOfAll();
        end("AllTest");
    }

    private static void bytes() {
        String text = WHOLE + times(500 - WHOLE.length(), " ");
        StripFlag x = new StripFlag();
        tell(x, text);
        due("500 bytes", x.told(4), 500);
        due("one more", x.feed(1, ';'), FULL);
        due("and one too many beside none", x.feed(8, 0), FULL);
        due("no bytes beside all", x.feed(0, 0), OUTSIDE);
        due("nine bytes beside all", x.feed(9, 0), OUTSIDE);
        due("500 bytes still", x.told(4), 500);
        due("flag", x.flag(), 8);
        due("fault", x.fault(), NONE);
        due("the text is empty", x.told(4), 0);
        due("room again", x.feed(8, 0), 8);
        // The last byte of 500 belongs to the text as well as the first one.
        String head = times(500 - "colours 1;strip 0;pole 0 9;".length(), " ") + "colours 1;strip 0;pole 0 9;";
        due("a flag at the end of 500 bytes", made(head).flies(9), 1);
        StripFlag y = new StripFlag();
        tell(y, head.substring(1) + ";");
        due("a fault in the last byte", y.flag(), -11);
        due("its place", y.fault(), 499);
        StripFlag z = new StripFlag();
        tell(z, head.substring(0, 499) + " ");
        due("a fault at the end", z.flag(), -11);
        due("its place", z.fault(), 500);
    }

    private static void fails(String text, int number, int place) {
        StripFlag x = made(FLAG);
        String was = seen(x);
        tell(x, text);
        due("flag() of '" + text + "'", x.flag(), -10 - number);
        due("fault() of '" + text + "'", x.fault(), place);
        same("behind '" + text + "'", seen(x), was);
    }

    private static void oneMore() {
        due("all", made(WHOLE).told(1), 8);
        fails("colours 99,0,1,98,5;", 1, 17);
        fails(COLOURS + STRIPS + "strip 0;", 3, 82);
        fails(WHOLE + "strip 0;", 3, WHOLE.length());
        fails(WHOLE + "seam 0 1 1;", 3, WHOLE.length());
        fails(WHOLE + "pole 0 1;", 3, WHOLE.length());
        fails(WHOLE + "could 0 1 1;", 3, WHOLE.length());
        fails(WHOLE + "colours 1;", 3, WHOLE.length());
        fails(WHOLE + "hem", 1, WHOLE.length());
        // Eight strips in any order with seams; the ninth is one too many wherever it stands.
        fails(COLOURS + "strip 0;pole 0 1;" + times(7, "strip 1;") + "could 0 0 0; strip 0;", 3, 104);
        fails(COLOURS + "strip 0;" + times(12, "pole 0 1;") + "strip 0;pole 1 1;", 3, 142);
        fails(COLOURS + "strip 0;" + times(4, "could 0 0 1;strip 1;") + times(5, "could 1 1 0;"), 3, 154);
    }

    private static void told() {
        StripFlag x = made(WHOLE);
        int[] want = {4, 8, 12, 8, 0, 4095, 0, 2 * (99 + 0 + 1 + 98), 0};
        for (int what = 0; what < 9; what++) due("told " + what, x.told(what), want[what]);
        int[][] seams = {{0, -1, 1}, {0, 1, 2}, {1, 2, 3}, {2, 3, 4}, {3, 4, 5}, {4, 5, 6}, {5, 6, 7}, {6, 7, 8}, {7, -1, 9},
            {0, 7, 9}, {3, -1, 9}, {4, 3, 9}};
        for (int s = 0; s < 12; s++) for (int what = 0; what < 3; what++) due("seam " + s, x.seam(s, what), seams[s][what]);
        due("a 13th seam", x.seam(12, 0), UNKNOWN);
        int[] own = {515, 6, 12, 3096, 2096, 96, 192, 896};
        int[] near = {130, 5, 10, 20, 40, 80, 160, 65};
        for (int a = 0; a < 8; a++) {
            due("strip " + a, x.strip(a, 0), a % 4);
            due("seams of " + a, x.strip(a, 1), own[a]);
            due("borders of " + a, x.strip(a, 2), near[a]);
            due("left of " + a, x.strip(a, 3), 15);
        }
        due("a ninth strip", x.strip(8, 0), UNKNOWN);
        due("a fifth colour", x.dye(7, 4), UNKNOWN);
        due("the fourth", x.dye(0, 3), 0);
        due("dearest all", x.told(7), 395);
    }

    private static void flying() {
        StripFlag x = made(WHOLE);
        int[] want = {255, 255, 255, 255, 255 - 2, 255 - 6, 255 - 6, 255 - 6, 255 - 38, 255 - 102};
        for (int w = 0; w < 10; w++) due("flies " + w, x.flies(w), want[w]);
        for (int s = 0; s < 12; s++) due("sew " + s, x.sew(s, 9), Math.min(s + 1, 9));
        due("all of 9", x.flies(9), 255);
        for (int s = 0; s < 11; s++) x.sew(s, 0);
        due("the last seam alone", x.told(5), 2048);
        due("it is at no pole", x.flies(0), 0);
        x.sew(10, 1);
        due("two strips by the last two", x.flies(0), 24);
        due("not in a wind above 1", x.flies(2), 0);
    }

    private static void done() {
        StripFlag x = made(WHOLE);
        due("the last strip and the last seam", x.unpick(7, 11), NOT);
        due("a neighbour's last seam", x.unpick(5, 11), 11);
        due("gone", x.unpick(5, 11), NOT);
        due("the first strip and the last one's", x.unpick(0, 7), 10);
        due("at the pole", x.unpick(0, 8), 9);
        due("not gone", x.told(5), 4095 - 2048 - 128 - 256);
        // Strips 0 to 6 are a chain at 0 and 3 now, 7 hangs at 0; its end 6, and 7, fray.
        due("fray", x.fray(6), 0);
        due("the end frayed", x.seam(6, 2), 1);
        due("the other end", x.seam(9, 2), 3);
        due("no end", x.seam(5, 2), 6);
        due("fray", x.fray(1), 64);
        due("fray", x.fray(9), 32 + 512);
        due("fray", x.fray(9), 16);
        due("fray without ends", x.fray(9), 0);
        for (int s = 0; s < 12; s++) due("hem " + s, x.hem(s, true), 0);
        due("all have hems", x.told(6), 4095);
        for (int a = 0; a < 8; a++) due("nobody may unpick", x.unpick(a, 3), NOT);
        due("a hem is lost", x.hem(11, false), 1);
        due("all but one", x.told(6), 2047);
    }

    /** The pole is no strip, so one seam alone at it makes no end of it. */
    private static void thePoleIsNoEnd() {
        StripFlag x = made(COLOURS + STRIPS + "pole 7 5;seam 7 6 4;seam 6 5 3;seam 5 7 2;");
        due("no ends", x.fray(9), 0);
        due("the pole's", x.seam(0, 2), 5);
        due("fly", x.flies(0), 128 + 64 + 32);
        due("cut", x.cut(7, 1), 1);
        x.sew(1, 0);
        x.sew(3, 0);
        due("two ends by two seams", x.fray(2), 0);
        due("the pole's", x.seam(0, 2), 3);
        due("the other", x.seam(2, 2), 1);
    }

    private static void cuts() {
        StripFlag x = made(WHOLE);
        int[] many = {3, 2, 2, 3, 3, 2, 2, 3};
        // Of like many the least: {0, 1, 9}, {1, 2}, {1, 3}, twice {1, 5, 10}, {5, 6}, {5, 7}, {5, 8, 9}.
        int[] which = {515, 6, 10, 1058, 1058, 96, 160, 800};
        for (int a = 0; a < 8; a++) due("cut " + a, x.cut(a, 0), many[a]);
        for (int a = 0; a < 8; a++) due("which " + a, x.cut(a, 1), which[a]);
        due("lasts 1", x.lasts(255, 1), 1);
        due("lasts 2", x.lasts(255, 2), 0);
        due("those of three seams last 2", x.lasts(1 + 8 + 16 + 128, 2), 1);
        due("but not 3", x.lasts(128, 3), 0);
        due("nor 3", x.lasts(8, 3), 0);
        due("a ninth strip", x.lasts(256, 1), UNKNOWN);
        for (int s = 0; s < 12; s++) x.hem(s, true);
        due("all have hems", x.lasts(255, 3), 1);
        due("hems do not matter", x.cut(7, 0), 3);
    }

    private static void hemsAndThread() {
        StripFlag x = made(WHOLE);
        due("none needed", x.hems(255, 1), 0);
        // Of each three seams 1, 2, 3 and 5, 6, 7 any two bring a strip down, so two of each get a hem.
        due("the fewest hems", x.hems(255, 2), 2 + 4 + 32 + 64);
        due("for the left side", x.hems(6, 2), 6);
        due("for the right side", x.hems(96, 2), 96);
        due("a ninth strip", x.hems(256, 2), UNKNOWN);
        due("no thread", x.thread(0, 0), 0);
        due("no thread", x.thread(1, 1), 0);
        // {1}, {2}, {1, 2} and {5}, {6}, {5, 6} need one seam more each: 2-6 for 25, 1-2 for 0, 5-6 for 1.
        due("the least thread", x.thread(2, 0), 26);
        due("the least thread", x.thread(2, 1), 4 + 8 + 128);
        // Without the seams at all, all eight could hold 1, 2, 5, 6 alone.
        for (int s = 0; s < 12; s++) x.sew(s, 0);
        for (int n = 0; n < 3; n++) due("too little thread", x.thread(n, 0), NONE);
        due("no hems help", x.hems(255, 1), NONE);
        for (int s = 0; s < 12; s++) x.sew(s, 1);
        for (int s = 0; s < 12; s++) x.hem(s, true);
        due("hemmed", x.hems(255, 2), 0);
        due("hemmed", x.thread(2, 1), 0);
    }

    private static void odds() {
        StripFlag x = made(COLOURS + STRIPS + times(12, "pole 7 1;"));
        // Twelve times parted in two: behind nine of them 1953125 are no more even, and what goes is cut.
        due("twelve seams at the half", x.odds(7, 50), 1000000000 - 244140);
        due("all go", x.odds(7, 100), 0);
        due("none goes", x.odds(7, 0), 1000000000);
        // 1000000000 * .99 behind the first, and so on; what goes in all: .99 to the 12th, cut each time.
        due("nearly all go", x.odds(7, 99), 1000000000 - allGo(99, 12));
        due("hardly one goes", x.odds(7, 1), 1000000000 - allGo(1, 12));
        due("another strip", x.odds(6, 0), 0);
        StripFlag y = made(COLOURS + STRIPS + "pole 0 1;seam 0 1 1;seam 1 2 1;seam 2 3 1;seam 3 4 1;seam 4 5 1;seam 5 6 1;seam 6 7 1;");
        due("a chain of eight: all stay", y.odds(7, 10), allStay(10, 8));
        due("a chain of eight: all stay", y.odds(7, 99), allStay(99, 8));
        due("its first", y.odds(0, 99), 10000000);
    }

    private static int allGo(int q, int seams) {
        long part = 1000000000;
        for (int i = 0; i < seams; i++) part = part * q / 100;
        return (int) part;
    }

    private static int allStay(int q, int seams) {
        long part = 1000000000;
        for (int i = 0; i < seams; i++) part -= part * q / 100;
        return (int) part;
    }

    private static void turns() {
        StripFlag x = made(WHOLE);
        for (int n = 0; n < 5; n++) {
            due("both fly at the end", x.turnsOf(0, 7, n, 0), 0);
            due("and it passes", x.turnsOf(0, 7, n, 1), NONE);
        }
        due("a ninth strip", x.turnsOf(7, 8, 4, 0), UNKNOWN);
        // Six strips in a row behind strip 0: 7 comes down by the unpicking of any seam that 5's parish may take.
        StripFlag y = made(COLOURS + STRIPS + "pole 0 1;seam 0 1 1;seam 1 2 1;seam 2 3 1;seam 3 4 1;seam 4 5 1;seam 5 6 1;seam 6 7 1;"
            + times(4, "pole 7 1;"));
        due("6 takes one of four", y.turnsOf(6, 7, 1, 0), 0);
        due("two parishes, four unpickings", y.turnsOf(6, 7, 4, 0), 0);
    }

    private static void coloursAndSaint() {
        StripFlag x = made(WHOLE);
        due("a ring of eight by the two cheapest", x.colours(NONE), 4);
        for (int a = 0; a < 8; a++) due("colour of " + a, x.colours(a), 1 + a % 2);
        due("a ninth", x.colours(8), UNKNOWN);
        // A ring of n can be coloured by k in (k - 1) to the n, and (k - 1) for an even n, ways.
        due("ways", x.fits(), 6561 + 3);
        for (int a = 0; a < 8; a++) due("nothing is sure", x.sure(a), NONE);
        for (int a = 0; a < 8; a++) due("left", x.left(a, 3), 15);
        due("two ways", x.fits(), 2);
        due("the fourth colour", x.left(7, 8), 3);
        due("two ways", x.fits(), 2);
        due("sure", x.sure(7), 3);
        due("not sure", x.sure(0), NONE);
        x.left(0, 2);
        for (int a = 0; a < 7; a++) due("sure " + a, x.sure(a), 1 - a % 2);
        due("a fifth colour", x.left(0, 16), UNKNOWN);
        StripFlag y = made(COLOURS + STRIPS);
        due("all ways without seams", y.fits(), 65536);
        due("all of the cheapest", y.colours(NONE), 0);
        for (int a = 0; a < 8; a++) due("all of the cheapest", y.colours(a), 1);
    }

    private static void book() {
        StripFlag x = made(WHOLE);
        for (int i = 0; i < 30; i++) due("entry", x.write(i % 8, i % 12), i + 1);
        due("a 31st", x.write(0, 0), FULL);
        due("a 31st", x.write(7, 11), FULL);
        due("an unknown 31st", x.write(8, 0), UNKNOWN);
        due("an unknown 31st", x.write(0, 12), UNKNOWN);
        due("entries", x.told(8), 30);
        due("the first is of its own", x.judge(), 0);
        due("torn", x.tear(), 30);
        // 1 takes what 0 has, 2 what 3 has, until 4 takes the seam by which 2 and 3 border.
        int[][] fall = {{1, 9}, {2, 4}, {4, 3}, {1, 0}};
        for (int i = 0; i < fall.length; i++) due("entry", x.write(fall[i][0], fall[i][1]), i + 1);
        due("all may be", x.judge(), NONE);
        due("nothing is done", x.told(5), 4095);
        due("room for 26 more", x.write(2, 10), 5);
        due("2 borders 3 no more", x.judge(), 4);
        for (int i = 6; i <= 30; i++) due("entry", x.write(2, 10), i);
        due("full", x.write(2, 10), FULL);
        due("the first wrong one is told", x.judge(), 4);
    }

    private static void years() {
        StripFlag x = made(WHOLE), y = made(WHOLE);
        x.seed(HIGH);
        y.seed(HIGH);
        due("99 years", x.drift(99), 0);
        due("the seed behind 99 years", seedOf(x), 1352977031);
        for (int i = 0; i < 99; i++) y.drift(1);
        same("99 times a year", seen(y), seen(x));
        due("a hundredth", x.drift(100), OUTSIDE);
        same("is refused", seen(x), seen(y));
        StripFlag z = made(WHOLE);
        z.seed(HIGH);
        due("seven years", z.drift(7), 255);
        due("what is not gone", z.told(5), 4070);
        due("the seed behind seven years", seedOf(z), 1768313486);
    }

    /** What an image keeps: STRENGTHS, HEMS, COLOURS of STRIPS, THE SEED. */
    private static String kept(StripFlag x) {
        StringBuilder all = new StringBuilder();
        for (int s = 0; s < 12; s++) all.append(x.seam(s, 2)).append(x.seam(s, 3) == 1 ? "h " : " ");
        for (int a = 0; a < 8; a++) all.append("/").append(x.strip(a, 0));
        return all.append(" s").append(seedOf(x)).toString();
    }

    private static void imagesOfAll() {
        StripFlag x = made(WHOLE);
        for (int s = 0; s < 12; s++) x.hem(s, s % 3 == 0);
        x.seed(HIGH);
        x.keep(1);
        String was = kept(x);
        for (int s = 0; s < 12; s++) x.sew(s, 0);
        for (int s = 0; s < 12; s++) x.hem(s, s % 3 == 1);
        for (int a = 0; a < 8; a++) x.dye(a, 3 - a % 4);
        x.seed(0);
        due("keep", x.keep(0), 1);
        String is = kept(x);
        due("goBack", x.goBack(1), 1);
        same("all of it", kept(x), was);
        due("goBack", x.goBack(0), 1);
        same("all of the other", kept(x), is);
    }
}
