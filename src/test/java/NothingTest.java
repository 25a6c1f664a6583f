/** Each call where there is nothing of something: no text, no strips, no seams, an empty set, an empty book. */
public final class NothingTest extends Check {
    public static void main(String[] args) {
        nothingAtAll(new StripFlag(), "a new object", 0);
        emptyTexts();
        coloursAlone();
        stripsAlone();
        couldsAlone();
        seamsAllGone();
        oneStrip();
        emptySets();
        emptyBook();
        nothingIsChangedByNothing();
        end("NothingTest");
    }

    private static void nothingAtAll(StripFlag x, String name, int colours) {
        due(name + ": told 0", x.told(0), colours);
        for (int what = 1; what < 9; what++) due(name + ": told " + what, x.told(what), 0);
        due(name + ": fault", x.fault(), NONE);
        for (int w = 0; w < 10; w++) {
            due(name + ": flies " + w, x.flies(w), 0);
            due(name + ": fray " + w, x.fray(w), 0);
        }
        due(name + ": seam", x.seam(0, 0), UNKNOWN);
        due(name + ": strip", x.strip(0, 3), UNKNOWN);
        due(name + ": unpick", x.unpick(0, 0), UNKNOWN);
        due(name + ": sew", x.sew(0, 1), UNKNOWN);
        due(name + ": hem", x.hem(0, true), UNKNOWN);
        due(name + ": dye", x.dye(0, 0), UNKNOWN);
        due(name + ": drift", x.drift(1), NOT);
        due(name + ": drift", x.drift(99), NOT);
        due(name + ": drift", x.drift(0), OUTSIDE);
        due(name + ": cut", x.cut(0, 0), UNKNOWN);
        due(name + ": odds", x.odds(0, 0), UNKNOWN);
        due(name + ": turnsOf", x.turnsOf(0, 1, 0, 0), UNKNOWN);
        due(name + ": turnsOf", x.turnsOf(0, 0, 0, 0), UNKNOWN);
        for (int n = 0; n < 4; n++) {
            due(name + ": lasts " + n, x.lasts(0, n), 1);
            due(name + ": lasts of one " + n, x.lasts(1, n), UNKNOWN);
        }
        for (int n = 1; n < 3; n++) {
            due(name + ": hems " + n, x.hems(0, n), 0);
            due(name + ": hems of one " + n, x.hems(1, n), UNKNOWN);
        }
        for (int n = 0; n < 3; n++) {
            due(name + ": thread " + n, x.thread(n, 0), 0);
            due(name + ": thread " + n, x.thread(n, 1), 0);
        }
        due(name + ": colours", x.colours(NONE), 0);
        due(name + ": colours of one", x.colours(0), UNKNOWN);
        due(name + ": left", x.left(0, 0), UNKNOWN);
        due(name + ": fits", x.fits(), 1);
        due(name + ": sure", x.sure(0), UNKNOWN);
        due(name + ": write", x.write(0, 0), UNKNOWN);
        due(name + ": tear", x.tear(), 0);
        due(name + ": judge", x.judge(), NONE);
        due(name + ": seed", x.seed(0), 0);
        for (int i = 0; i < 2; i++) {
            due(name + ": goBack " + i, x.goBack(i), NOT);
            due(name + ": keep " + i, x.keep(i), 1);
            due(name + ": goBack " + i, x.goBack(i), 1);
        }
        due(name + ": flag", x.flag(), 0);
        due(name + ": goBack behind flag", x.goBack(0), NOT);
        due(name + ": goBack behind flag", x.goBack(1), NOT);
    }

    /** An empty text (or one of blanks alone) has no FAULT: no COLOURS; all of an older flag is away. */
    private static void emptyTexts() {
        StripFlag x = new StripFlag();
        due("flag of no text", x.flag(), 0);
        nothingAtAll(x, "no text", 0);
        String[] blanks = {"", " ", "        ", times(500, " ")};
        for (String text : blanks) {
            nothingAtAll(made(text), text.length() + " blanks", 0);
            StripFlag y = made(FLAG);
            y.hem(0, true);
            y.write(0, 0);
            y.keep(0);
            y.keep(1);
            tell(y, "z");
            due("a fault before", y.flag(), -11);
            tell(y, text);
            due("flag of " + text.length() + " blanks", y.flag(), 0);
            nothingAtAll(y, text.length() + " blanks behind a flag", 0);
        }
        StripFlag z = made(FLAG);
        z.seed(31);
        due("no text", z.flag(), 0);
        due("the seed stays", z.seed(0), 31);
    }

    private static void coloursAlone() {
        nothingAtAll(made("colours 0;"), "a colour", 1);
        nothingAtAll(made("colours 9,9,9,9;"), "four colours", 4);
    }

    private static void stripsAlone() {
        StripFlag x = made("colours 7,3;strip 0;strip 1;strip 0;");
        int[] told = {2, 3, 0, 0, 0, 0, 0, 17, 0};
        for (int what = 0; what < 9; what++) due("strips alone: told " + what, x.told(what), told[what]);
        for (int what = 0; what < 4; what++) {
            due("strips alone: seam", x.seam(0, what), UNKNOWN);
            due("strips alone: strip", x.strip(1, what), new int[] {1, 0, 0, 3}[what]);
        }
        for (int w = 0; w < 10; w++) {
            due("strips alone: flies", x.flies(w), 0);
            due("strips alone: fray", x.fray(w), 0);
        }
        due("strips alone: unpick", x.unpick(0, 0), UNKNOWN);
        due("strips alone: sew", x.sew(0, 1), UNKNOWN);
        due("strips alone: hem", x.hem(0, true), UNKNOWN);
        due("strips alone: write", x.write(0, 0), UNKNOWN);
        due("strips alone: dye", x.dye(2, 1), 0);
        due("strips alone: cost", x.told(7), 13);
        for (int a = 0; a < 3; a++) {
            due("strips alone: cut", x.cut(a, 0), 0);
            due("strips alone: cut", x.cut(a, 1), 0);
            due("strips alone: odds", x.odds(a, 0), 0);
            due("strips alone: odds", x.odds(a, 100), 0);
        }
        for (int n = 0; n < 4; n++) due("strips alone: lasts", x.lasts(4, n), 0);
        for (int n = 0; n < 4; n++) due("strips alone: lasts of none", x.lasts(0, n), 1);
        for (int n = 1; n < 3; n++) due("strips alone: hems", x.hems(1, n), NONE);
        for (int n = 1; n < 3; n++) due("strips alone: hems of none", x.hems(0, n), 0);
        for (int n = 0; n < 3; n++) due("strips alone: thread", x.thread(n, 0), NONE);
        for (int n = 0; n < 3; n++) due("strips alone: thread", x.thread(n, 1), NONE);
        for (int n = 0; n < 5; n++) due("strips alone: turnsOf", x.turnsOf(0, 2, n, 0), 0);
        for (int n = 0; n < 5; n++) due("strips alone: turnsOf", x.turnsOf(0, 2, n, 1), NONE);
        due("strips alone: colours", x.colours(NONE), 9);
        due("strips alone: colours", x.colours(2), 1);
        due("strips alone: fits", x.fits(), 8);
        due("strips alone: sure", x.sure(0), NONE);
        // On 0, if there are seams, a draw of them: here no year draws more than each parish once and the wind.
        due("strips alone: seed", x.seed(5), 0);
        due("strips alone: drift", x.drift(2), 0);
        due("strips alone: eight draws", x.seed(0), drawn(5, 8));
    }

    /** THE SEED behind so many draws, in numbers without an end. */
    private static long drawn(long seed, int draws) {
        java.math.BigInteger s = java.math.BigInteger.valueOf(seed);
        for (int i = 0; i < draws; i++) {
            s = s.multiply(java.math.BigInteger.valueOf(1103515245)).add(java.math.BigInteger.valueOf(12345));
            s = s.mod(java.math.BigInteger.ONE.shiftLeft(31));
        }
        return s.longValueExact();
    }

    private static void couldsAlone() {
        StripFlag x = made("colours 1;strip 0;could 0 0 0;could 0 0 99;");
        due("coulds alone: none flies", x.flies(0), 0);
        due("coulds alone: told", x.told(3), 2);
        due("coulds alone: no seams", x.told(2), 0);
        due("coulds alone: no seam", x.seam(0, 2), UNKNOWN);
        due("coulds alone: thread 0", x.thread(0, 0), 0);
        due("coulds alone: thread 0, for nothing", x.thread(0, 1), 1);
        due("coulds alone: thread 1", x.thread(1, 0), 99);
        due("coulds alone: thread 1", x.thread(1, 1), 3);
        due("coulds alone: thread 2", x.thread(2, 0), NONE);
        due("coulds alone: thread 2", x.thread(2, 1), NONE);
        due("coulds alone: nothing is sewn", x.told(5), 0);
    }

    /** Seams that are gone are none for all that is asked, but a year draws them, too. */
    private static void seamsAllGone() {
        StripFlag x = made("colours 1,2;strip 0;strip 1;pole 0 9;seam 0 1 9;could 0 0 5;could 1 1 6;");
        x.sew(0, 0);
        x.sew(1, 0);
        x.hem(1, true);
        due("all gone: told 2", x.told(2), 2);
        due("all gone: told 5", x.told(5), 0);
        due("all gone: told 6", x.told(6), 2);
        due("all gone: strength", x.seam(0, 2), 0);
        due("all gone: flies", x.flies(0), 0);
        due("all gone: seams of a strip", x.strip(0, 1), 0);
        due("all gone: borders", x.strip(0, 2), 0);
        due("all gone: fray", x.fray(9), 0);
        for (int a = 0; a < 2; a++) for (int s = 0; s < 2; s++) due("all gone: unpick", x.unpick(a, s), NOT);
        due("all gone: cut", x.cut(1, 0), 0);
        due("all gone: cut", x.cut(1, 1), 0);
        due("all gone: lasts", x.lasts(1, 0), 0);
        due("all gone: hems", x.hems(2, 1), NONE);
        due("all gone: odds", x.odds(1, 0), 0);
        due("all gone: thread 0", x.thread(0, 0), 11);
        due("all gone: thread 0", x.thread(0, 1), 3);
        due("all gone: turnsOf", x.turnsOf(0, 1, 4, 0), 0);
        due("all gone: colours", x.colours(NONE), 2);
        due("all gone: fits", x.fits(), 4);
        due("all gone: write", x.write(0, 1), 1);
        due("all gone: judge", x.judge(), 0);
        // By the seed 12345 parish 0 draws 0, then a seam; parish 1 draws 1; so the wind is the fourth draw.
        due("all gone: drift", x.drift(1), 0);
        due("all gone: four draws", x.seed(0), drawn(0, 4));
    }

    private static void oneStrip() {
        StripFlag x = made("colours 3;strip 0;pole 0 9;");
        due("one strip: flies", x.flies(9), 1);
        due("one strip: borders", x.strip(0, 2), 0);
        due("one strip: unpick", x.unpick(0, 0), NOT);
        due("one strip: turnsOf", x.turnsOf(0, 0, 1, 0), UNKNOWN);
        due("one strip: turnsOf", x.turnsOf(0, 1, 1, 0), UNKNOWN);
        due("one strip: fits", x.fits(), 1);
        due("one strip: sure", x.sure(0), 0);
        due("one strip: colours", x.colours(NONE), 3);
        due("one strip: cut", x.cut(0, 1), 1);
        due("one strip: hems", x.hems(1, 2), 1);
    }

    private static void emptySets() {
        StripFlag x = made(FLAG);
        for (int n = 0; n < 4; n++) due("an empty set lasts", x.lasts(0, n), 1);
        for (int n = 1; n < 3; n++) due("an empty set needs no hems", x.hems(0, n), 0);
        due("no colours left", x.left(1, 0), 7);
        due("no colours left", x.strip(1, 3), 0);
        due("no way", x.fits(), 0);
        for (int a = 0; a < 4; a++) due("nothing is sure", x.sure(a), NONE);
        due("it can be again", x.left(1, 7), 0);
        due("all ways", x.fits(), 12);
        due("no hems", x.told(6), 0);
    }

    private static void emptyBook() {
        StripFlag x = made(FLAG);
        due("an empty book", x.judge(), NONE);
        due("an empty book", x.tear(), 0);
        x.write(0, 0);
        due("a wrong entry", x.judge(), 0);
        due("one entry", x.tear(), 1);
        due("torn", x.judge(), NONE);
        due("torn", x.told(8), 0);
        due("torn again", x.tear(), 0);
        due("written behind that", x.write(0, 4), 1);
        due("what was torn is not judged", x.judge(), NONE);
    }

    /** A wind of 0, an odds of 0, no unpickings, a seam sewn as it was: nothing is so but what was. */
    private static void nothingIsChangedByNothing() {
        StripFlag x = made(FLAG);
        String was = seen(x);
        due("fray 0", x.fray(0), 0);
        due("sew as it was", x.sew(4, 1), 1);
        due("dye as it was", x.dye(3, 2), 2);
        due("left as it was", x.left(3, 7), 7);
        due("no hem off", x.hem(4, false), 0);
        due("the seed as it was", x.seed(0), 0);
        for (int n = 0; n < 5; n++) x.turnsOf(0, 3, n, 1);
        x.odds(3, 50);
        x.hems(15, 2);
        x.thread(2, 1);
        x.lasts(15, 3);
        x.cut(3, 1);
        x.colours(0);
        x.fits();
        x.sure(3);
        x.judge();
        same("what is tried changes nothing", seen(x), was);
    }
}
