/** Each promise of the document by answers worked out by hand: ordinary calls, the edges, wrong numbers. */
public final class PromiseTest extends Check {
    public static void main(String[] args) {
        newObject();
        feed();
        flag();
        faultsOfWords();
        faultsOfNumbers();
        faultsOfMany();
        fault();
        told();
        seam();
        strip();
        flies();
        unpick();
        sew();
        hem();
        fray();
        dye();
        drift();
        cut();
        lasts();
        hems();
        thread();
        odds();
        turnsOf();
        colours();
        left();
        fits();
        sure();
        book();
        seed();
        images();
        end("PromiseTest");
    }

    private static void newObject() {
        StripFlag x = new StripFlag();
        for (int what = 0; what < 9; what++) due("1 told(" + what + ")", x.told(what), 0);
        due("1 strip", x.strip(0, 0), UNKNOWN);
        due("1 seam", x.seam(0, 0), UNKNOWN);
        due("1 flies", x.flies(0), 0);
        due("1 fits", x.fits(), 1);
        due("1 colours", x.colours(NONE), 0);
        due("1 seed", x.seed(0), 0);
        due("1 fault", x.fault(), NONE);
        due("1 judge", x.judge(), NONE);
        due("1 goBack", x.goBack(0), NOT);
        due("1 NONE", StripFlag.NONE, -1);
        due("1 UNKNOWN", StripFlag.UNKNOWN, -1000000001);
        due("1 OUTSIDE", StripFlag.OUTSIDE, -1000000002);
        due("1 NOT", StripFlag.NOT, -1000000003);
        due("1 FULL", StripFlag.FULL, -1000000004);
    }

    private static void feed() {
        StripFlag x = new StripFlag();
        due("2 feed 0", x.feed(0, 1), OUTSIDE);
        due("2 feed 9", x.feed(9, 1), OUTSIDE);
        due("2 feed -1", x.feed(-1, 1), OUTSIDE);
        due("2 feed LOW", x.feed(LOW, 1), OUTSIDE);
        due("2 feed HIGH", x.feed(HIGH, 1), OUTSIDE);
        due("2 told", x.told(4), 0);
        due("2 feed the lowest, the highest first", x.feed(3, 0x7f7f7f7f00636f6cL), 3);
        due("2 feed", x.feed(4, 0xffffffff6f757273L), 7);
        due("2 feed", x.feed(2, 0x2037L), 9);
        due("2 feed", x.feed(1, 0x203bL), 10);
        due("2 flag", x.flag(), 0);
        due("2 colours", x.told(0), 1);
        for (int i = 1; i <= 62; i++) due("2 feed 8", x.feed(8, 0x2020202020202020L), 8 * i);
        due("2 feed 5", x.feed(5, 0x2020202020L), FULL);
        due("2 told", x.told(4), 496);
        due("2 feed 4", x.feed(4, 0x20202020L), 500);
        due("2 feed 1", x.feed(1, 0x20L), FULL);
        due("2 feed 9", x.feed(9, 0x20L), OUTSIDE);
        due("2 flag of 500 blanks", x.flag(), 0);
        due("2 colours", x.told(0), 0);
        due("2 feed behind flag", x.feed(8, 0), 8);
        StripFlag y = new StripFlag();
        due("2 a long below 0", y.feed(8, 0x8063000000000000L), 8);
        due("2 flag", y.flag(), -11);
        due("2 fault", y.fault(), 0);
    }

    private static void flag() {
        StripFlag x = new StripFlag();
        tell(x, FLAG);
        due("3 flag", x.flag(), 4);
        due("3 text", x.told(4), 0);
        x.hem(1, true);
        x.left(2, 1);
        x.write(0, 0);
        x.seed(77);
        x.keep(0);
        x.sew(0, 0);
        tell(x, "colours 1;strip 1;");
        due("3 flag with a fault", x.flag(), -12);
        due("3 text", x.told(4), 0);
        due("3 hems stay", x.told(6), 2);
        due("3 strengths stay", x.told(5), 30);
        due("3 LEFT stays", x.strip(2, 3), 1);
        due("3 book stays", x.told(8), 1);
        due("3 image stays", x.goBack(0), 1);
        tell(x, " colours 3 , 4 ;strip1 ; pole 0 9;pole 0 007;could 0 0 0;");
        due("3 flag", x.flag(), 1);
        due("3 no hems", x.told(6), 0);
        due("3 seams", x.told(5), 3);
        due("3 strength", x.seam(1, 2), 7);
        due("3 LEFT all", x.strip(0, 3), 3);
        due("3 no book", x.told(8), 0);
        due("3 no image", x.goBack(0), NOT);
        due("3 colours", x.told(0), 2);
        due("3 could", x.told(3), 1);
        due("3 seed stays", x.seed(0), 77);
        due("3 flag without text", x.flag(), 0);
        due("3 strips", x.told(1), 0);
        due("3 seams", x.told(2), 0);
        due("3 seams", x.told(5), 0);
        due("3 could", x.told(3), 0);
    }

    private static void faultsOfWords() {
        reads("", 0, NONE);
        reads("   ", 0, NONE);
        reads("colours 1;", 0, NONE);
        reads("  colours  1  ;  ", 0, NONE);
        reads("colours1,2,3,4;strip3;", 0, NONE);
        reads("strip 0;", 1, 0);
        reads("  pole 0 1;", 1, 2);
        reads("colour 1;", 1, 0);
        reads("coloursx 1;", 1, 0);
        reads("colours", 1, 7);
        reads("colours  ", 1, 9);
        reads("colou", 1, 0);
        reads("col ours 1;", 1, 0);
        reads("Colours 1;", 1, 0);
        reads("coloursX 1;", 1, 7);
        reads("colours 1,2,3,4,5;", 1, 15);
        reads("colours 1,2,3,4 , ;", 1, 16);
        reads("colours 1", 1, 9);
        reads("colours 1;;", 1, 10);
        reads("colours ;", 1, 8);
        reads("colours 1,;", 1, 10);
        reads("colours ,1;", 1, 8);
        reads("colours 1 2;", 1, 10);
        reads("colours a;", 1, 8);
        reads("colours 1;7", 1, 10);
        reads("7", 1, 0);
        reads("1234", 1, 0);
        reads(";", 1, 0);
        reads("\t", 1, 0);
        reads("colours\u00ff1;", 1, 7);
        reads("colours 1;\u0000", 1, 10);
        reads("colours 1;hem 0;", 1, 10);
        reads("colours 1;strip 0;stripstrip 0;", 1, 18);
        reads("colours 1;strip colours;", 1, 16);
        reads("colours 1;strip 0,", 1, 17);
        reads("colours 1;strip 0 0;", 1, 18);
        reads("colours 1;strip 0;pole 00;", 1, 25);
        reads("colours 1;strip 0;pole 01;", 2, 23);
        reads("colours 1;strip 0;pole 0 1 1;", 1, 27);
        reads("colours 1;strip 0;pole 0 1strip 0;", 1, 26);
        reads("colours 1;strip 0;seam 0", 1, 24);
        reads("colours 1;strip 0;could 0 0 5", 1, 29);
        reads("colours 1;strip 0", 1, 17);
        reads("colours 1;strip 0  ", 1, 19);
    }

    private static void faultsOfNumbers() {
        reads("colours 0;", 0, NONE);
        reads("colours 99,099;", 0, NONE);
        reads("colours 100;", 2, 8);
        reads("colours 999", 2, 8);
        reads("colours 0001;", 2, 8);
        reads("colours 1,12345678901234567890;", 2, 10);
        reads("colours 1;strip 1;", 2, 16);
        reads("colours 1,2;strip 1;", 0, NONE);
        reads("colours 1;strip  0000;", 2, 17);
        reads("colours 1;pole 0 1;", 2, 15);
        reads("colours 1;pole 0000 1;", 2, 15);
        reads("colours 1;strip 0;pole 1 1;", 2, 23);
        reads("colours 1;strip 0;pole 0 0;", 2, 25);
        reads("colours 1;strip 0;pole 0 9;", 0, NONE);
        reads("colours 1;strip 0;pole 0 10;", 2, 25);
        reads("colours 1;strip 0;seam 1 0 1;", 2, 23);
        reads("colours 1;strip 0;seam 0 1 1;", 2, 25);
        reads("colours 1;strip 0;seam 0 1 1;strip 0;", 2, 25);
        reads("colours 1;strip 0;strip 0;seam 0 1 1;", 0, NONE);
        reads("colours 1;strip 0;strip 0;seam 0 1 0;", 2, 35);
        reads("colours 1;strip 0;strip 0;seam 0 1 10;", 2, 35);
        reads("colours 1;strip 0;could 1 0 1;", 2, 24);
        reads("colours 1;strip 0;could 0 1 1;", 2, 26);
        reads("colours 1;strip 0;could 0 0 0;", 0, NONE);
        reads("colours 1;strip 0;could 0 0 99;", 0, NONE);
        reads("colours 1;strip 0;could 0 0 100;", 2, 28);
        reads("colours 1;strip 0;seam 0 0 1;", 4, 25);
        reads("colours 1;strip 0;seam 0 00 99;", 4, 25);
        reads("colours 1;strip 0;seam 0 0000 1;", 2, 25);
        reads("colours 1;strip 0;seam 0 ;", 1, 25);
        reads("colours 1;strip 0;seam 1 1 1;", 2, 23);
    }

    private static void faultsOfMany() {
        String head = "colours 1;" + times(8, "strip 0;");
        reads("colours 1; colours 1;", 3, 11);
        reads("colours 1;colours", 3, 10);
        reads(head, 0, NONE);
        reads(head + "strip 0;", 3, 74);
        reads(head + " strip", 3, 75);
        String seams = head + times(6, "pole 0 1;") + times(6, "seam 0 1 1;");
        reads(seams, 0, NONE);
        reads(seams + "pole 0 1;", 3, 194);
        reads(seams + "seam 0 0 1;", 3, 194);
        reads(seams + "seam", 3, 194);
        reads(head + times(12, "pole 0 1;") + "seam 0 1 1;", 3, 182);
        String coulds = head + times(8, "could 0 0 1;");
        reads(coulds, 0, NONE);
        reads(coulds + "could 0 0 1;", 3, 170);
        reads(coulds + "seam 0 1 1;", 0, NONE);
        reads(seams + times(8, "could 0 0 1;"), 0, NONE);
        reads(seams + "poles 0 1;", 1, 194);
    }

    private static void fault() {
        StripFlag x = new StripFlag();
        tell(x, "colours 1;hem 1;");
        due("4 flag", x.flag(), -11);
        due("4 fault", x.fault(), 10);
        x.feed(1, 'c');
        due("4 fault is of the latest flag", x.fault(), 10);
        due("4 flag", x.flag(), -11);
        due("4 fault", x.fault(), 0);
        due("4 flag", x.flag(), 0);
        due("4 fault", x.fault(), NONE);
    }

    private static void told() {
        StripFlag x = made(FLAG);
        int[] want = {3, 4, 5, 3, 0, 31, 0, 21, 0};
        for (int what = 0; what < 9; what++) due("5 told(" + what + ")", x.told(what), want[what]);
        due("5 told(-1)", x.told(-1), OUTSIDE);
        due("5 told(9)", x.told(9), OUTSIDE);
        due("5 told(LOW)", x.told(LOW), OUTSIDE);
        due("5 told(HIGH)", x.told(HIGH), OUTSIDE);
        x.feed(5, 0);
        x.sew(1, 0);
        x.hem(0, true);
        x.hem(1, true);
        x.dye(3, 1);
        x.write(0, 0);
        due("5 seams told", x.told(2), 5);
        due("5 text", x.told(4), 5);
        due("5 not gone", x.told(5), 29);
        due("5 hems, one on a seam that is gone", x.told(6), 3);
        due("5 cost", x.told(7), 14);
        due("5 book", x.told(8), 1);
    }

    private static void seam() {
        StripFlag x = made(FLAG);
        int[][] want = {{0, NONE, 5, 0}, {0, 1, 3, 0}, {1, 2, 4, 0}, {0, 2, 2, 0}, {2, 3, 1, 0}};
        for (int s = 0; s < 5; s++) {
            for (int what = 0; what < 4; what++) due("6 seam(" + s + ", " + what + ")", x.seam(s, what), want[s][what]);
        }
        due("6 hem", x.hem(4, true), 0);
        due("6 seam", x.seam(4, 3), 1);
        due("6 sew", x.sew(4, 0), 1);
        due("6 seam", x.seam(4, 2), 0);
        due("6 seam", x.seam(4, 1), 3);
        due("6 seam", x.seam(0, 4), OUTSIDE);
        due("6 seam", x.seam(0, -1), OUTSIDE);
        due("6 seam", x.seam(5, 0), UNKNOWN);
        due("6 seam", x.seam(-1, 0), UNKNOWN);
        due("6 seam, UNKNOWN first", x.seam(HIGH, HIGH), UNKNOWN);
        due("6 seam", x.seam(LOW, 0), UNKNOWN);
        StripFlag y = made("colours 1;strip 0;strip 0;seam 1 0 1;");
        due("6 from as told", y.seam(0, 0), 1);
        due("6 to as told", y.seam(0, 1), 0);
    }

    private static void strip() {
        StripFlag x = made(FLAG);
        int[][] want = {{0, 11, 6, 7}, {1, 6, 5, 7}, {0, 28, 11, 7}, {2, 16, 4, 7}};
        for (int a = 0; a < 4; a++) {
            for (int what = 0; what < 4; what++) due("7 strip(" + a + ", " + what + ")", x.strip(a, what), want[a][what]);
        }
        x.sew(3, 0);
        x.dye(0, 2);
        x.left(0, 5);
        due("7 colour", x.strip(0, 0), 2);
        due("7 seams", x.strip(0, 1), 3);
        due("7 borders", x.strip(0, 2), 2);
        due("7 left", x.strip(0, 3), 5);
        due("7 strip", x.strip(0, 4), OUTSIDE);
        due("7 strip", x.strip(0, -1), OUTSIDE);
        due("7 strip, UNKNOWN first", x.strip(4, 4), UNKNOWN);
        due("7 strip", x.strip(-1, 0), UNKNOWN);
        due("7 strip", x.strip(LOW, 0), UNKNOWN);
        StripFlag y = made("colours 1;strip 0;strip 0;seam 0 1 1;seam 1 0 2;");
        due("7 two seams border once", y.strip(0, 2), 2);
        due("7 both seams", y.strip(1, 1), 3);
        due("7 one gone", y.sew(0, 0), 1);
        due("7 they border by the other", y.strip(1, 2), 1);
    }

    private static void flies() {
        StripFlag x = made(FLAG);
        int[] want = {15, 15, 7, 7, 1, 1, 0, 0, 0, 0};
        for (int w = 0; w < 10; w++) due("8 flies(" + w + ")", x.flies(w), want[w]);
        due("8 flies", x.flies(10), OUTSIDE);
        due("8 flies", x.flies(-1), OUTSIDE);
        due("8 flies", x.flies(LOW), OUTSIDE);
        due("8 sew", x.sew(2, 0), 4);
        due("8 flies", x.flies(0), 15);
        due("8 flies", x.flies(3), 3);
        due("8 sew", x.sew(3, 0), 2);
        due("8 flies", x.flies(0), 3);
        due("8 a chain told from its far end", made("colours 1;" + times(8, "strip 0;") + "seam 6 7 9;seam 5 6 9;seam 4 5 9;"
            + "seam 3 4 9;seam 2 3 9;seam 1 2 9;seam 0 1 9;pole 0 9;").flies(9), 255);
    }

    private static void unpick() {
        StripFlag x = made(FLAG);
        due("9 its own", x.unpick(0, 1), NOT);
        due("9 its own, at the pole", x.unpick(0, 0), NOT);
        due("9 of one that it does not border", x.unpick(3, 1), NOT);
        due("9 of one that does not border", x.unpick(3, 0), NOT);
        due("9 strip", x.unpick(4, 0), UNKNOWN);
        due("9 strip", x.unpick(-1, 0), UNKNOWN);
        due("9 seam", x.unpick(0, 5), UNKNOWN);
        due("9 seam", x.unpick(0, LOW), UNKNOWN);
        due("9 hem", x.hem(4, true), 0);
        due("9 with a hem", x.unpick(0, 4), NOT);
        due("9 hem", x.hem(4, false), 1);
        due("9 of a neighbour", x.unpick(0, 4), 4);
        due("9 gone", x.unpick(0, 4), NOT);
        due("9 borders no more", x.unpick(3, 2), NOT);
        due("9 of a neighbour, to the pole", x.unpick(1, 0), 3);
        due("9 not gone", x.told(5), 14);
        due("9 a neighbour by either end", made(FLAG).unpick(3, 3), 4);
        due("9 a neighbour's that goes far", made("colours 1;strip 0;strip 0;strip 0;seam 0 1 1;seam 2 1 1;").unpick(0, 1), 1);
    }

    private static void sew() {
        StripFlag x = made(FLAG);
        due("10 sew", x.sew(0, 9), 5);
        due("10 sew", x.sew(0, 0), 9);
        due("10 gone", x.told(5), 30);
        due("10 sew", x.sew(0, 1), 0);
        due("10 back", x.told(5), 31);
        due("10 sew", x.sew(0, 10), OUTSIDE);
        due("10 sew", x.sew(0, -1), OUTSIDE);
        due("10 sew", x.sew(5, 10), UNKNOWN);
        due("10 sew", x.sew(-1, 1), UNKNOWN);
        due("10 as it was", x.seam(0, 2), 1);
    }

    private static void hem() {
        StripFlag x = made(FLAG);
        due("11 hem", x.hem(2, true), 0);
        due("11 hem", x.hem(2, true), 1);
        due("11 hems", x.told(6), 4);
        due("11 hem", x.hem(0, true), 0);
        due("11 hem", x.hem(2, false), 1);
        due("11 hem", x.hem(2, false), 0);
        due("11 hems", x.told(6), 1);
        due("11 hem", x.hem(5, true), UNKNOWN);
        due("11 hem", x.hem(-1, true), UNKNOWN);
        due("11 hem", x.hem(32, true), UNKNOWN);
    }

    private static void fray() {
        StripFlag x = made(FLAG);
        due("12 fray", x.fray(10), OUTSIDE);
        due("12 fray", x.fray(-1), OUTSIDE);
        due("12 fray", x.fray(0), 0);
        x.hem(4, true);
        due("12 a hem does not help", x.fray(1), 16);
        due("12 the hem stays", x.told(6), 16);
        due("12 no end is left", x.fray(9), 0);
        due("12 strengths", x.seam(0, 2), 5);
        StripFlag y = made("colours 1;strip 0;strip 0;seam 0 1 5;strip 0;pole 2 9;");
        due("12 each seam once", y.fray(3), 0);
        due("12 strength", y.seam(0, 2), 2);
        due("12 a seam to the pole", y.seam(1, 2), 6);
        due("12 gone", y.fray(6), 3);
        StripFlag z = made("colours 1;strip 0;strip 0;strip 0;pole 0 3;seam 0 1 3;seam 1 2 3;");
        due("12 ends as they were", z.fray(9), 4);
        due("12 the next end", z.fray(9), 2);
        due("12 the last", z.fray(9), 1);
        due("12 none", z.fray(9), 0);
    }

    private static void dye() {
        StripFlag x = made(FLAG);
        due("13 dye", x.dye(1, 2), 1);
        due("13 dye", x.dye(1, 0), 2);
        due("13 like its neighbour", x.strip(1, 0), 0);
        due("13 cost", x.told(7), 24);
        due("13 dye", x.dye(1, 3), UNKNOWN);
        due("13 dye", x.dye(1, -1), UNKNOWN);
        due("13 dye", x.dye(4, 0), UNKNOWN);
        due("13 dye", x.dye(-1, 0), UNKNOWN);
        due("13 as it was", x.strip(1, 0), 0);
    }

    private static void drift() {
        StripFlag x = new StripFlag();
        due("14 no strips", x.drift(1), NOT);
        due("14 OUTSIDE first", x.drift(0), OUTSIDE);
        due("14 drift", x.drift(100), OUTSIDE);
        due("14 drift", x.drift(-1), OUTSIDE);
        StripFlag y = made("colours 1;strip 0;");
        // Without seams: a draw of 3 (the seed 12345: 0, on which no seam is drawn), then the wind.
        due("14 drift", y.drift(1), 0);
        due("14 two draws", y.seed(0), 1406932606);
        StripFlag z = made("colours 1;strip 0;pole 0 9;");
        // The seed 12345 draws 0, so one seam is drawn, too, then the wind of 654583775 / 65536 = 9988: 1.
        due("14 drift", z.drift(1), 1);
        due("14 three draws", z.seed(0), 654583775);
        due("14 frayed", z.seam(0, 2), 8);
        due("14 the longest", z.drift(99), 0);
        due("14 frayed away", z.told(5), 0);
        // By the seed 5 parish 0 draws 1, parish 1 draws 0 and the seam 0; the wind is 2, both strips are ends then.
        String two = "colours 1;strip 0;strip 0;pole 0 9;seam 0 1 9;";
        due("14 unpicked", drifted(two, 5, false).told(5), 2);
        due("14 frayed behind that", drifted(two, 5, false).seam(1, 2), 7);
        due("14 a hem", drifted(two, 5, true).told(5), 3);
        due("14 draws with a hem", drifted(two, 5, true).seed(0), 2089129857);
        // By the seed 3 parish 1 draws the seam 1, its own; the wind is 2, strip 1 alone is an end.
        due("14 its own", drifted(two, 3, false).told(5), 3);
        due("14 frayed", drifted(two, 3, false).seam(1, 2), 7);
        due("14 not frayed", drifted(two, 3, false).seam(0, 2), 9);
        StripFlag w = made(FLAG);
        w.sew(4, 3);
        w.hem(4, true);
        due("14 seed", w.seed(9), 0);
        due("14 drift", w.drift(2), 15);
        due("14 told", w.told(5), 31);
        due("14 drift", w.drift(9), 7);
        StripFlag v = made(FLAG);
        v.sew(4, 3);
        v.hem(4, true);
        v.seed(9);
        due("14 the same years at once", v.drift(11), 7);
        due("14 the same seed", v.seed(0), w.seed(0));
    }

    private static StripFlag drifted(String text, int seed, boolean hem) {
        StripFlag x = made(text);
        x.seed(seed);
        x.hem(0, hem);
        x.drift(1);
        return x;
    }

    private static void cut() {
        StripFlag x = made(FLAG);
        for (int a = 0; a < 4; a++) {
            due("15 how many", x.cut(a, 0), 1);
            due("15 which", x.cut(a, 1), 1);
        }
        x.hem(0, true);
        due("15 hems do not matter", x.cut(3, 1), 1);
        due("15 what", x.cut(0, 2), OUTSIDE);
        due("15 what", x.cut(0, -1), OUTSIDE);
        due("15 strip", x.cut(4, 2), UNKNOWN);
        due("15 strip", x.cut(-1, 0), UNKNOWN);
        x.sew(0, 0);
        due("15 it does not fly", x.cut(3, 0), 0);
        due("15 without any", x.cut(3, 1), 0);
        StripFlag y = made("colours 1;strip 0;strip 0;seam 0 1 1;seam 0 1 1;pole 0 1;pole 0 1;pole 0 1;");
        due("15 two", y.cut(1, 0), 2);
        due("15 which", y.cut(1, 1), 3);
        due("15 three", y.cut(0, 0), 3);
        due("15 which", y.cut(0, 1), 28);
        y.sew(3, 0);
        due("15 of like many the least", y.cut(1, 1), 3);
        due("15 one gone is none of them", y.cut(0, 1), 20);
    }

    private static void lasts() {
        StripFlag x = made(FLAG);
        due("16 lasts 0", x.lasts(15, 0), 1);
        due("16 lasts 1", x.lasts(15, 1), 0);
        due("16 no strips", x.lasts(0, 3), 1);
        x.hem(0, true);
        due("16 with a hem", x.lasts(7, 1), 1);
        due("16 the end", x.lasts(8, 1), 0);
        due("16 two", x.lasts(1, 3), 1);
        due("16 two", x.lasts(2, 2), 0);
        due("16 set", x.lasts(16, 0), UNKNOWN);
        due("16 set", x.lasts(-1, 0), UNKNOWN);
        due("16 set", x.lasts(LOW, 9), UNKNOWN);
        due("16 n", x.lasts(15, 4), OUTSIDE);
        due("16 n", x.lasts(15, -1), OUTSIDE);
        x.sew(0, 0);
        due("16 none flies", x.lasts(1, 0), 0);
        StripFlag y = made("colours 1;strip 0;pole 0 1;pole 0 1;pole 0 1;");
        due("16 fewer seams than n", y.lasts(1, 3), 0);
        due("16 two of three", y.lasts(1, 2), 1);
        y.sew(0, 0);
        due("16 two of two", y.lasts(1, 2), 0);
        y.hem(1, true);
        due("16 hemmed", y.lasts(1, 3), 1);
    }

    private static void hems() {
        StripFlag x = made(FLAG);
        due("17 hems", x.hems(7, 1), 1);
        due("17 hems", x.hems(15, 1), 17);
        due("17 no strips", x.hems(0, 2), 0);
        x.hem(0, true);
        due("17 beside those there are", x.hems(15, 1), 16);
        due("17 none needed", x.hems(7, 1), 0);
        due("17 of like ones the least", x.hems(7, 2), 6);
        due("17 all", x.hems(15, 2), 22);
        due("17 n", x.hems(15, 0), OUTSIDE);
        due("17 n", x.hems(15, 3), OUTSIDE);
        due("17 set", x.hems(16, 3), UNKNOWN);
        due("17 set", x.hems(-1, 1), UNKNOWN);
        x.sew(4, 0);
        due("17 it does not fly", x.hems(8, 1), NONE);
        due("17 the others do", x.hems(7, 2), 6);
        StripFlag y = made("colours 1;strip 0;pole 0 1;pole 0 1;pole 0 1;");
        due("17 three hold two", y.hems(1, 2), 0);
        y.sew(0, 0);
        due("17 not on one gone", y.hems(1, 2), 2);
    }

    private static void thread() {
        StripFlag x = made(FLAG);
        due("18 none needed", x.thread(0, 0), 0);
        due("18 none needed", x.thread(0, 1), 0);
        // Seam 0 alone holds all: one more to the pole, which also has to hold strip 3.
        due("18 pole and end at once", x.thread(1, 0), 7);
        due("18 which", x.thread(1, 1), 1);
        due("18 two", x.thread(2, 0), 16);
        due("18 which", x.thread(2, 1), 7);
        due("18 n", x.thread(3, 0), OUTSIDE);
        due("18 n", x.thread(-1, 0), OUTSIDE);
        due("18 what", x.thread(0, 2), OUTSIDE);
        due("18 what", x.thread(0, -1), OUTSIDE);
        x.hem(0, true);
        due("18 a hem", x.thread(1, 0), 4);
        due("18 which", x.thread(1, 1), 2);
        x.sew(1, 0);
        x.sew(3, 0);
        due("18 all but 0 hang by could", x.thread(0, 0), 5);
        due("18 which", x.thread(0, 1), 4);
        StripFlag y = made("colours 1;strip 0;could 0 0 3;could 0 0 2;could 0 0 1;could 0 0 0;");
        due("18 the least sum", y.thread(1, 0), 1);
        due("18 which", y.thread(1, 1), 12);
        due("18 three", y.thread(2, 0), 3);
        StripFlag z = made("colours 1;strip 0;could 0 0 2;could 0 0 1;could 0 0 1;could 0 0 0;");
        due("18 of like sums the least set", z.thread(1, 1), 10);
        due("18 without what costs nothing and helps nothing", z.thread(0, 1), 8);
        StripFlag w = made("colours 1;strip 0;pole 0 1;could 0 0 1;");
        due("18 cannot be", w.thread(2, 0), NONE);
        due("18 cannot be", w.thread(2, 1), NONE);
    }

    private static void odds() {
        StripFlag x = made(FLAG);
        due("19 one seam", x.odds(0, 50), 500000000);
        due("19 seam 0, then 1 or 3 with 2", x.odds(1, 50), 312500000);
        due("19 nothing goes", x.odds(3, 0), 1000000000);
        due("19 all goes", x.odds(3, 100), 0);
        due("19 one", x.odds(0, 1), 990000000);
        x.hem(0, true);
        due("19 a hem", x.odds(0, 50), 1000000000);
        due("19 hemmed holds when all goes", x.odds(0, 100), 1000000000);
        due("19 q", x.odds(0, 101), OUTSIDE);
        due("19 q", x.odds(0, -1), OUTSIDE);
        due("19 strip", x.odds(4, 101), UNKNOWN);
        due("19 strip", x.odds(-1, 1), UNKNOWN);
        x.sew(0, 0);
        due("19 gone", x.odds(0, 1), 0);
        // Twelve at 1 of a hundred: all twelve go in 0, since 10 parts times 1 / 100 is cut.
        StripFlag y = made("colours 1;strip 0;" + times(12, "pole 0 1;"));
        due("19 what goes is cut, what stays has the rest", y.odds(0, 1), 1000000000);
        due("19 half", y.odds(0, 50), 1000000000 - 244140);
    }

    private static void turnsOf() {
        StripFlag x = made(FLAG);
        due("20 no turn", x.turnsOf(1, 3, 0, 0), 0);
        due("20 no turn", x.turnsOf(1, 3, 0, 1), NONE);
        due("20 the first takes 4", x.turnsOf(1, 3, 1, 0), 3);
        due("20 which", x.turnsOf(1, 3, 1, 1), 4);
        due("20 of like ones passing", x.turnsOf(3, 1, 2, 1), NONE);
        due("20 the second takes 4", x.turnsOf(3, 1, 2, 0), -3);
        x.hem(4, true);
        due("20 a hem", x.turnsOf(1, 3, 1, 0), 0);
        due("20 one twice", x.turnsOf(0, 0, 1, 0), UNKNOWN);
        due("20 strip", x.turnsOf(0, 4, 5, 0), UNKNOWN);
        due("20 strip", x.turnsOf(-1, 0, 1, 0), UNKNOWN);
        due("20 n", x.turnsOf(0, 1, 5, 0), OUTSIDE);
        due("20 n", x.turnsOf(0, 1, -1, 0), OUTSIDE);
        due("20 what", x.turnsOf(0, 1, 1, 2), OUTSIDE);
        due("20 what", x.turnsOf(0, 1, 1, -1), OUTSIDE);
        x.sew(4, 0);
        due("20 no turn, but it does not fly", x.turnsOf(0, 3, 0, 0), 3);
        due("20 from the other's side", x.turnsOf(3, 0, 0, 0), -3);
        due("20 it does not fly already", x.turnsOf(0, 3, 1, 0), 3);
        due("20 so it passes", x.turnsOf(0, 3, 1, 1), NONE);
        due("20 from the other's side", x.turnsOf(3, 0, 1, 0), -3);
        StripFlag y = made("colours 1;strip 0;strip 0;pole 1 1;pole 0 1;seam 0 1 1;pole 1 1;");
        // Strip 1 stays at 0 even without both its own seams to the pole, so nothing is won.
        due("20 nothing to win", y.turnsOf(0, 1, 4, 0), 0);
        due("20 nothing to win", y.turnsOf(0, 1, 4, 1), NONE);
        StripFlag z = made("colours 1;strip 0;strip 0;strip 0;pole 2 1;seam 0 2 1;seam 1 2 1;pole 2 1;");
        due("20 the one who begins", z.turnsOf(0, 1, 1, 0), 3);
        due("20 which", z.turnsOf(0, 1, 1, 1), 2);
        due("20 the second can pay back nothing when it is parted", z.turnsOf(0, 1, 2, 0), 3);
        due("20 the other begins", z.turnsOf(1, 0, 3, 1), 1);
    }

    private static void colours() {
        StripFlag x = made(FLAG);
        int[] want = {0, 1, 2, 1};
        due("21 sum", x.colours(NONE), 18);
        for (int a = 0; a < 4; a++) due("21 colour of " + a, x.colours(a), want[a]);
        due("21 strip", x.colours(4), UNKNOWN);
        due("21 strip", x.colours(-2), UNKNOWN);
        due("21 strip", x.colours(LOW), UNKNOWN);
        x.left(0, 0);
        due("21 LEFT does not matter", x.colours(NONE), 18);
        due("21 nothing is dyed", x.told(7), 21);
        x.sew(2, 0);
        due("21 without a seam", x.colours(NONE), 5 + 2 + 2 + 5);
        due("21 colour", x.colours(0), 0);
        StripFlag y = made("colours 4,4,4;strip 0;strip 0;seam 0 1 1;");
        due("21 of like sums the first", y.colours(0), 0);
        due("21 of like sums the first", y.colours(1), 1);
        StripFlag z = made("colours 1;strip 0;strip 0;seam 0 1 1;");
        due("21 none", z.colours(NONE), NONE);
        due("21 none", z.colours(1), NONE);
        due("21 UNKNOWN all the same", z.colours(2), UNKNOWN);
        StripFlag w = made("colours 9,9,0;strip 0;strip 0;strip 0;seam 1 0 1;seam 1 2 1;");
        due("21 the dearest once", w.colours(NONE), 9);
        due("21 outer", w.colours(0), 2);
        due("21 inner, the lesser", w.colours(1), 0);
    }

    private static void left() {
        StripFlag x = made(FLAG);
        due("22 all at first", x.left(0, 1), 7);
        due("22 left", x.left(0, 6), 1);
        due("22 none", x.left(0, 0), 6);
        due("22 left", x.left(0, 7), 0);
        due("22 left", x.left(0, 8), UNKNOWN);
        due("22 left", x.left(0, -1), UNKNOWN);
        due("22 left", x.left(0, LOW), UNKNOWN);
        due("22 left", x.left(4, 0), UNKNOWN);
        due("22 left", x.left(-1, 0), UNKNOWN);
        due("22 as it was", x.strip(0, 3), 7);
        due("22 of the others too", x.strip(1, 3), 7);
    }

    private static void fits() {
        StripFlag x = made(FLAG);
        due("23 three, two, one, then two", x.fits(), 12);
        x.left(0, 1);
        due("23 fits", x.fits(), 4);
        x.left(3, 0);
        due("23 none", x.fits(), 0);
        x.left(3, 7);
        x.sew(4, 0);
        due("23 as they border now", x.fits(), 6);
        x.dye(0, 2);
        due("23 what it is dyed does not matter", x.fits(), 6);
        due("23 many", made("colours 1,1,1,1;" + times(8, "strip 0;")).fits(), 65536);
        due("23 one colour", made("colours 1;strip 0;strip 0;seam 1 0 1;").fits(), 0);
    }

    private static void sure() {
        StripFlag x = made(FLAG);
        due("24 not sure", x.sure(0), NONE);
        x.left(0, 1);
        due("24 by LEFT", x.sure(0), 0);
        due("24 not sure", x.sure(1), NONE);
        x.left(1, 3);
        due("24 by its neighbour", x.sure(1), 1);
        due("24 by both", x.sure(2), 2);
        due("24 one of two", x.sure(3), NONE);
        due("24 LEFT stays", x.strip(3, 3), 7);
        due("24 fits", x.fits(), 2);
        x.left(3, 1);
        due("24 one way alone", x.sure(3), 0);
        x.left(2, 2);
        due("24 fits", x.fits(), 0);
        due("24 no way at all", x.sure(0), NONE);
        due("24 no way at all", x.sure(2), NONE);
        due("24 strip", x.sure(4), UNKNOWN);
        due("24 strip", x.sure(-1), UNKNOWN);
    }

    private static void book() {
        StripFlag x = made(FLAG);
        due("27 empty", x.judge(), NONE);
        due("26 empty", x.tear(), 0);
        due("25 write", x.write(0, 4), 1);
        due("25 write", x.write(1, 0), 2);
        due("27 both may be", x.judge(), NONE);
        due("27 only tried", x.told(5), 31);
        due("25 write", x.write(3, 2), 3);
        due("27 3 borders nothing any more", x.judge(), 2);
        x.hem(0, true);
        due("27 from now", x.judge(), 1);
        x.sew(4, 0);
        due("27 from now", x.judge(), 0);
        due("25 strip", x.write(4, 0), UNKNOWN);
        due("25 strip", x.write(-1, 0), UNKNOWN);
        due("25 seam", x.write(0, 5), UNKNOWN);
        due("25 seam", x.write(0, -1), UNKNOWN);
        due("26 tear", x.tear(), 3);
        due("26 told", x.told(8), 0);
        due("27 empty", x.judge(), NONE);
        for (int i = 1; i <= 30; i++) due("25 write", x.write(0, 4), i);
        due("25 full", x.write(0, 4), FULL);
        due("25 UNKNOWN first", x.write(0, 5), UNKNOWN);
        due("25 told", x.told(8), 30);
        due("26 tear", x.tear(), 30);
        StripFlag y = made(FLAG);
        y.write(0, 4);
        y.write(0, 4);
        due("27 the same twice", y.judge(), 1);
    }

    private static void seed() {
        StripFlag x = made(FLAG);
        due("28 at first", x.seed(5), 0);
        due("28 the most", x.seed(HIGH), 5);
        due("28 below", x.seed(-1), OUTSIDE);
        due("28 below", x.seed(LOW), OUTSIDE);
        due("28 as it was", x.seed(HIGH), HIGH);
        x.drift(1);
        StripFlag y = made("colours 1;strip 0;");
        y.seed(HIGH);
        y.drift(1);
        // Twice: times 1103515245 and 12345, left over by 2147483648.
        long s = ((long) HIGH * 1103515245L + 12345L) % 2147483648L;
        s = (s * 1103515245L + 12345L) % 2147483648L;
        due("28 from the most on", y.seed(0), s);
    }

    private static void images() {
        StripFlag x = made(FLAG);
        due("29 image", x.keep(2), UNKNOWN);
        due("29 image", x.keep(-1), UNKNOWN);
        due("30 image", x.goBack(2), UNKNOWN);
        due("30 image", x.goBack(LOW), UNKNOWN);
        due("30 not kept", x.goBack(0), NOT);
        x.seed(11);
        x.hem(3, true);
        x.left(1, 1);
        x.write(0, 4);
        due("29 keep", x.keep(1), 1);
        due("30 not kept", x.goBack(0), NOT);
        x.sew(0, 0);
        x.hem(3, false);
        x.hem(2, true);
        x.dye(3, 0);
        x.seed(12);
        x.left(1, 2);
        x.write(0, 4);
        due("29 keep the other", x.keep(0), 1);
        due("30 goBack", x.goBack(1), 1);
        due("30 strengths", x.told(5), 31);
        due("30 strength", x.seam(0, 2), 5);
        due("30 hems", x.told(6), 8);
        due("30 colours", x.strip(3, 0), 2);
        due("30 LEFT is not kept", x.strip(1, 3), 2);
        due("30 the book is not kept", x.told(8), 2);
        x.sew(0, 7);
        due("30 again, the image is as it was", x.goBack(1), 1);
        due("30 strength", x.seam(0, 2), 5);
        due("30 seed", x.seed(0), 11);
        due("30 the other", x.goBack(0), 1);
        due("30 strengths", x.told(5), 30);
        due("30 hems", x.told(6), 4);
        due("30 colours", x.strip(3, 0), 0);
        due("30 seed", x.seed(0), 12);
        due("29 keep anew", x.keep(0), 1);
        due("30 goBack", x.goBack(0), 1);
        due("30 seed", x.seed(0), 0);
        StripFlag y = new StripFlag();
        due("29 without a flag", y.keep(0), 1);
        due("30 without a flag", y.goBack(0), 1);
    }
}
