import java.math.BigInteger;

/** Each bound of strengths, winds, ends, seams taken away, hems, thread, odds, unpickings, draws: on it and beside it. */
public final class BoundsTest extends Check {
    public static void main(String[] args) {
        bytesOfALong();
        strengthsAndWinds();
        ends();
        endsByTheirSeams();
        goneAndHemmed();
        seamsBesideOneAnother();
        threadBesideSeams();
        oddsOfOne();
        oddsAreCut();
        unpickingsByTurns();
        fewestColours();
        left();
        book();
        seedWrapsAround();
        drawsOfAYear();
        drawnSeams();
        images();
        flagBehindFlag();
        end("BoundsTest");
    }

    private static void bytesOfALong() {
        String text = "colours 1;strip 0;pole 0 1;";
        for (int n = 1; n <= 8; n++) {
            StripFlag x = new StripFlag();
            for (int i = 0; i < text.length(); i += n) {
                int many = Math.min(n, text.length() - i);
                // What is above the lowest bytes does not come into the text.
                long bytes = many % 2 == 0 ? 0 : -1;
                for (int j = 0; j < many; j++) bytes = bytes << 8 | text.charAt(i + j);
                due("feed " + many, x.feed(many, bytes), i + many);
            }
            due("flag fed by " + n, x.flag(), 1);
            due("it flies", x.flies(1), 1);
        }
        StripFlag y = new StripFlag();
        due("feed of the highest bit", y.feed(8, Long.MIN_VALUE), 8);
        due("feed of all bits", y.feed(8, -1L), 16);
        due("a byte of 128", y.flag(), -11);
    }

    /** Each STRENGTH in each WIND: w or more flies, 0 is gone and does not fly in 0 either. */
    private static void strengthsAndWinds() {
        StripFlag x = made("colours 1;strip 0;strip 0;pole 0 9;seam 0 1 9;");
        int was = 9;
        for (int n = 0; n <= 9; n++) {
            due("sew " + n, x.sew(1, n), was);
            was = n;
            due("strength " + n, x.seam(1, 2), n);
            due("not gone", x.told(5), n == 0 ? 1 : 3);
            due("borders", x.strip(1, 2), n == 0 ? 0 : 1);
            for (int w = 0; w <= 9; w++) due("flies " + w + " by " + n, x.flies(w), n > 0 && n >= w ? 3 : 1);
        }
        due("out of bounds", x.sew(1, 10), OUTSIDE);
        due("as it was", x.seam(1, 2), 9);
        due("nothing flies without the pole's", x.sew(0, 0), 9);
        for (int w = 0; w <= 9; w++) due("flies " + w, x.flies(w), 0);
    }

    /** Each STRENGTH frayed by each WIND: less by w, 0 at least; told is what is gone by it. */
    private static void ends() {
        for (int w = 0; w <= 9; w++) {
            StripFlag x = made("colours 1;strip 0;pole 0 9;");
            x.hem(0, w % 2 == 0);
            for (int n = 0; n <= 9; n++) {
                x.sew(0, n);
                due("fray " + w + " of " + n, x.fray(w), n > 0 && n <= w ? 1 : 0);
                due("left of " + n, x.seam(0, 2), Math.max(0, n - w));
            }
        }
        // A seam between two ends is frayed once.
        for (int w = 0; w <= 9; w++) {
            StripFlag y = made("colours 1;strip 0;strip 0;seam 0 1 9;");
            due("fray " + w, y.fray(w), w == 9 ? 1 : 0);
            due("once", y.seam(0, 2), 9 - w);
        }
    }

    /** No SEAM or two that are not gone make no end, one does, gone ones beside it. */
    private static void endsByTheirSeams() {
        StripFlag x = made("colours 1;strip 0;strip 0;strip 0;pole 0 9;pole 0 9;seam 0 1 9;seam 0 1 9;");
        due("two seams each", x.fray(9), 0);
        x.sew(3, 0);
        due("one seam", x.fray(1), 0);
        due("frayed", x.seam(2, 2), 8);
        due("not frayed", x.seam(0, 2), 9);
        due("gone ones stay gone", x.seam(3, 2), 0);
        x.sew(1, 0);
        // Strip 0 has two seams now, one to the pole and one to strip 1.
        due("the end alone", x.fray(8), 4);
        due("the pole's stays", x.seam(0, 2), 9);
        due("by the ends as they are now", x.fray(8), 0);
        due("frayed", x.seam(0, 2), 1);
        due("gone", x.fray(1), 1);
        due("no seams at all", x.fray(9), 0);
        StripFlag y = made("colours 1;strip 0;strip 0;strip 0;pole 0 1;seam 0 1 1;seam 1 2 1;");
        due("by the ends as they were", y.fray(9), 4);
        due("two stay", y.told(5), 3);
    }

    private static void goneAndHemmed() {
        StripFlag x = made(FLAG);
        x.hem(4, true);
        x.sew(4, 0);
        due("a gone seam with a hem holds nothing", x.lasts(8, 0), 0);
        due("nor does another hem", x.hems(8, 1), NONE);
        due("nor for odds", x.odds(3, 0), 0);
        due("nor is it cut", x.cut(3, 0), 0);
        due("nor can it be unpicked", x.unpick(0, 4), NOT);
        x.hem(4, false);
        due("nor without the hem", x.unpick(0, 4), NOT);
        x.hem(4, true);
        due("sewn again", x.sew(4, 1), 0);
        due("the hem is on it", x.seam(4, 3), 1);
        due("so nobody may", x.unpick(0, 4), NOT);
        due("a hem twice is on", x.hem(4, true), 1);
        due("off", x.hem(4, false), 1);
        due("off twice", x.hem(4, false), 0);
        due("so it may be", x.unpick(0, 4), 4);
        // The fewest that can be left by an unpicking: the one by which the parish borders.
        StripFlag y = made("colours 1;strip 0;strip 0;pole 0 1;seam 0 1 1;");
        due("one is left", y.unpick(1, 0), 1);
        due("its own is not to be", y.unpick(1, 1), NOT);
        due("nor the other's, which is its own", y.unpick(0, 1), NOT);
    }

    /** So many seams side by side from the pole last fewer of them, with hems any. */
    private static void seamsBesideOneAnother() {
        for (int many = 0; many <= 12; many++) {
            StripFlag x = made("colours 1;strip 0;" + times(many, "pole 0 1;"));
            for (int n = 0; n <= 3; n++) due(many + " last " + n, x.lasts(1, n), many > n ? 1 : 0);
            for (int n = 1; n <= 2; n++) due(many + " need hems " + n, x.hems(1, n), many > n ? 0 : many > 0 ? 1 : NONE);
            due("cut of " + many, x.cut(0, 0), many);
            due("cut of " + many, x.cut(0, 1), (1 << many) - 1);
            if (many == 0) continue;
            x.hem(many - 1, true);
            for (int n = 0; n <= 3; n++) due(many + " with a hem last " + n, x.lasts(1, n), 1);
            for (int n = 1; n <= 2; n++) due(many + " with a hem need none " + n, x.hems(1, n), 0);
            due("cut of " + many, x.cut(0, 0), many);
        }
        // Two between the strips, two at the pole: both pairs bring strip 1 down, the first is the least.
        StripFlag y = made("colours 1;strip 0;strip 0;seam 0 1 1;seam 0 1 1;pole 0 1;pole 0 1;");
        due("cut of 1", y.cut(1, 1), 3);
        due("cut of 0", y.cut(0, 1), 12);
        due("hems of both", y.hems(3, 2), 5);
        due("hems of 0", y.hems(1, 2), 4);
        due("none for one", y.hems(3, 1), 0);
        // {0, 2} and {1, 2} bring strip 0 down: 2 alone is fewer than 0 and 1, though the greater number.
        StripFlag z = made("colours 1;strip 0;strip 0;seam 0 1 1;pole 1 1;pole 0 1;");
        due("the fewest, then the least", z.hems(1, 2), 4);
        due("the same of strip 1", z.hems(2, 2), 2);
        due("of both", z.hems(3, 2), 3);
    }

    /** Seams and coulds together are more than what is taken away, by the cheapest coulds. */
    private static void threadBesideSeams() {
        for (int many = 0; many <= 4; many++) {
            for (int coulds = 0; coulds <= 4; coulds++) {
                StripFlag x = made("colours 1;strip 0;" + times(many, "pole 0 1;") + times(coulds, "could 0 0 7;"));
                for (int n = 0; n <= 2; n++) {
                    int need = Math.max(0, n + 1 - many);
                    String name = many + " and " + coulds + " that could be last " + n;
                    due(name, x.thread(n, 0), need > coulds ? NONE : 7 * need);
                    due(name, x.thread(n, 1), need > coulds ? NONE : (1 << need) - 1);
                }
                if (many == 0) continue;
                x.hem(0, true);
                for (int n = 0; n <= 2; n++) due("a hem holds", x.thread(n, 1), 0);
            }
        }
        StripFlag y = made("colours 1;strip 0;could 0 0 99;could 0 0 99;could 0 0 99;could 0 0 98;could 0 0 0;");
        due("the cheapest", y.thread(0, 1), 16);
        due("costs nothing", y.thread(0, 0), 0);
        due("two", y.thread(1, 1), 24);
        due("two cost", y.thread(1, 0), 98);
        due("three, of like ones the least", y.thread(2, 1), 25);
        due("three cost", y.thread(2, 0), 197);
        StripFlag z = made("colours 1;strip 0;strip 0;pole 0 1;could 0 1 4;could 1 1 4;could 1 0 3;could 1 1 5;");
        due("any one", z.thread(0, 1), 4);
        due("any one taken away", z.thread(1, 1), 6);
        due("any two taken away", z.thread(2, 1), 15);
    }

    private static void oddsOfOne() {
        StripFlag x = made("colours 1;strip 0;pole 0 1;pole 0 1;");
        x.sew(1, 0);
        for (int q = 0; q <= 100; q++) due("odds of one " + q, x.odds(0, q), 1000000000 - 10000000 * q);
        x.sew(1, 1);
        for (int q = 0; q <= 100; q++) due("odds of two " + q, x.odds(0, q), 1000000000 - 100000 * q * q);
        x.hem(1, true);
        for (int q = 0; q <= 100; q += 25) due("odds with a hem " + q, x.odds(0, q), 1000000000);
        // Gone ones are not parted, wherever they are in order, nor those with a hem that do not reach the pole.
        StripFlag y = made("colours 1;strip 0;strip 0;pole 0 1;pole 0 1;seam 0 1 1;seam 0 1 1;pole 1 1;pole 1 1;");
        for (int s = 0; s < 6; s += 2) y.sew(s, 0);
        y.hem(3, true);
        due("odds by 1 and 5", y.odds(0, 50), 750000000);
        due("odds by 5 and 1", y.odds(1, 50), 750000000);
        y.sew(1, 0);
        due("odds by 5 alone", y.odds(0, 50), 500000000);
        y.hem(3, false);
        due("odds by 3 and 5", y.odds(0, 50), 250000000);
        due("odds by 5", y.odds(1, 50), 500000000);
    }

    /** What goes is cut, part by part, what stays has the rest: of seams in a row nearly nothing is lost twice. */
    private static void oddsAreCut() {
        for (int many = 1; many <= 12; many++) {
            StripFlag x = made("colours 1;strip 0;" + times(many, "pole 0 1;"));
            StripFlag y = made("colours 1;" + times(8, "strip 0;") + chain(Math.min(many, 8)));
            for (int q = 1; q < 100; q += 7) {
                long go = 1000000000, stay = 1000000000;
                for (int s = 0; s < many; s++) go = go * q / 100;
                for (int s = 0; s < Math.min(many, 8); s++) stay -= stay * q / 100;
                due("odds of " + many + " side by side " + q, x.odds(0, q), 1000000000 - go);
                due("odds of a row of " + many + " " + q, y.odds(Math.min(many, 8) - 1, q), stay);
            }
        }
        // Of each of the many parts behind five seams what goes by the sixth is cut: 15 more stay than of the whole.
        StripFlag z = made("colours 1;strip 0;strip 0;" + times(5, "pole 0 1;") + "seam 0 1 1;");
        due("odds of the strip behind five", z.odds(1, 1), 1000000000 - 10000000 + 15);
    }

    private static String chain(int many) {
        StringBuilder text = new StringBuilder("pole 0 1;");
        for (int a = 1; a < many; a++) text.append("seam ").append(a - 1).append(' ').append(a).append(" 1;");
        return text.toString();
    }

    /** n is 0 to 4: the second's strip comes down by as many seams as the first has turns. */
    private static void unpickingsByTurns() {
        // Strip 0 flies by two of strip 2, strip 1 by so many more of strip 2, which nobody but 0 wants to unpick.
        for (int many = 1; many <= 3; many++) {
            StripFlag x = made("colours 1;strip 0;strip 0;strip 0;pole 0 1;pole 0 1;pole 2 1;seam 0 2 1;" + times(many, "seam 1 2 1;"));
            x.hem(0, true);
            x.hem(3, true);
            int[] turns = {0, many == 1 ? 3 : 0, many == 1 ? 3 : 0, many <= 2 ? 3 : 0, many <= 2 ? 3 : 0};
            for (int n = 0; n <= 4; n++) {
                due(many + " seams, turns " + n, x.turnsOf(0, 1, n, 0), turns[n]);
                // It passes where the same can be had by its second turn.
                int seam = many == 1 && n <= 2 || many == 2 && n >= 3 ? 4 : NONE;
                if (n == 0) seam = NONE;
                due(many + " seams, turns " + n, x.turnsOf(0, 1, n, 1), seam);
            }
            due("n outside", x.turnsOf(0, 1, 5, 0), OUTSIDE);
            due("n outside", x.turnsOf(0, 1, -1, 0), OUTSIDE);
            // From the other side the second has the 2nd and the 4th.
            int[] other = {0, 0, many == 1 ? -3 : 0, many == 1 ? -3 : 0, many <= 2 ? -3 : 0};
            for (int n = 0; n <= 4; n++) due(many + " seams, the other begins, " + n, x.turnsOf(1, 0, n, 0), other[n]);
        }
        // The first seam of all is the one to take; the only one that 1 could take would bring itself down.
        StripFlag z = made("colours 1;strip 0;strip 0;strip 0;seam 1 2 1;seam 0 2 1;pole 0 1;");
        due("0 takes the first seam", z.turnsOf(0, 1, 1, 0), 3);
        due("0 takes the first seam", z.turnsOf(0, 1, 1, 1), 0);
        due("1 can only pass", z.turnsOf(1, 0, 1, 0), 0);
        due("1 can only pass", z.turnsOf(1, 0, 1, 1), NONE);
        due("then 0 takes the first seam", z.turnsOf(1, 0, 2, 0), -3);
        due("all the same, so it passes", z.turnsOf(1, 0, 2, 1), NONE);
        // All that may be had: 2 times own less other's, first less second.
        StripFlag y = made("colours 1;strip 0;strip 0;pole 0 1;pole 1 1;");
        due("both fly", y.turnsOf(0, 1, 0, 0), 0);
        y.sew(1, 0);
        due("the first alone", y.turnsOf(0, 1, 4, 0), 3);
        due("the second alone", y.turnsOf(1, 0, 4, 0), -3);
        y.sew(0, 0);
        due("none", y.turnsOf(0, 1, 4, 0), 0);
        due("no seams to take", y.turnsOf(0, 1, 4, 1), NONE);
    }

    private static void fewestColours() {
        String strips = "strip 0;strip 0;strip 0;strip 0;strip 0;";
        String four = "seam 0 1 1;seam 0 2 1;seam 0 3 1;seam 1 2 1;seam 1 3 1;seam 2 3 1;";
        int[] sums = {NONE, NONE, NONE, 10};
        String colours = "colours 1";
        for (int k = 1; k <= 4; k++) {
            StripFlag x = made(colours + ";" + strips.substring(0, 32) + four);
            due("four that all border, colours " + k, x.colours(NONE), sums[k - 1]);
            for (int a = 0; a < 4; a++) due("colour of " + a, x.colours(a), k == 4 ? a : NONE);
            due("ways", x.fits(), k == 4 ? 24 : 0);
            for (int s = 0; s < 6; s++) x.sew(s, 0);
            due("none border", x.colours(NONE), 4);
            due("ways", x.fits(), k * k * k * k);
            colours += "," + (k + 1);
        }
        StripFlag y = made("colours 1,2,3,4;" + strips + four + "seam 0 4 1;seam 1 4 1;seam 2 4 1;seam 3 4 1;");
        due("five that all border", y.colours(NONE), NONE);
        due("five that all border", y.colours(4), NONE);
        due("no ways", y.fits(), 0);
        due("not sure", y.sure(0), NONE);
        y.sew(9, 0);
        due("but for one seam", y.colours(NONE), 11);
        due("the last two alike", y.colours(4), 0);
        due("the last two alike", y.colours(3), 0);
        due("the first has the next", y.colours(0), 1);
        due("ways", y.fits(), 24);
        StripFlag z = made("colours 99,99,99,99;strip 0;strip 0;seam 0 1 9;");
        due("the dearest", z.colours(NONE), 198);
        due("the first", z.colours(0), 0);
        due("then the lesser", z.colours(1), 1);
    }

    private static void left() {
        String[] colours = {"colours 1;", "colours 1,1;", "colours 1,1,1;", "colours 1,1,1,1;"};
        for (int k = 1; k <= 4; k++) {
            StripFlag x = made(colours[k - 1] + "strip 0;strip 0;seam 0 1 1;");
            int all = (1 << k) - 1;
            int was = all;
            for (int set = 0; set <= all; set++) {
                due("left " + set, x.left(0, set), was);
                due("left", x.strip(0, 3), set);
                due("of the other", x.strip(1, 3), all);
                due("ways", x.fits(), Integer.bitCount(set) * (k - 1));
                boolean one = Integer.bitCount(set) == 1 && k > 1;
                due("sure", x.sure(0), one ? Integer.numberOfTrailingZeros(set) : NONE);
                was = set;
            }
            due("one colour more", x.left(0, all + 1), UNKNOWN);
            for (int colour = 0; colour <= 5; colour++) due("dye " + colour, x.dye(1, colour), colour < k ? Math.max(0, colour - 1) : UNKNOWN);
            due("as it was", x.strip(0, 3), all);
        }
    }

    private static void book() {
        StripFlag x = made(FLAG);
        for (int round = 0; round < 2; round++) {
            for (int i = 0; i < 30; i++) {
                due("entries", x.told(8), i);
                due("write", x.write(i == 0 ? 0 : 3, 4), i + 1);
                due("judge", x.judge(), i == 0 ? NONE : 1);
            }
            due("a 31st", x.write(0, 0), FULL);
            due("tear", x.tear(), 30);
            due("tear", x.tear(), 0);
        }
        for (int i = 0; i < 30; i++) x.write(0, 0);
        tell(x, FLAG);
        due("flag", x.flag(), 4);
        due("no book", x.told(8), 0);
        due("none is wrong", x.judge(), NONE);
        due("room for 30", x.write(3, 3), 1);
        due("it may be", x.judge(), NONE);
        x.sew(4, 0);
        due("from now", x.judge(), 0);
    }

    private static long next(long seed) {
        BigInteger s = BigInteger.valueOf(seed).multiply(BigInteger.valueOf(1103515245)).add(BigInteger.valueOf(12345));
        return s.mod(BigInteger.ONE.shiftLeft(31)).longValueExact();
    }

    private static final int[] SEEDS = {0, 1, 2, 3, 65535, 65536, 65537, 12345, 1 << 30, (1 << 30) - 1, (1 << 30) + 1,
        1103515245, HIGH, HIGH - 1, HIGH - 2, HIGH - 65536, 0x7fff0000, 0x7ffe0000};

    /** 0 to 2147483647; a year of one strip without seams draws twice. */
    private static void seedWrapsAround() {
        StripFlag x = made("colours 1;strip 0;");
        due("one draw behind the most", next(HIGH), 1043980748L);
        int was = 0;
        for (int v : SEEDS) {
            due("seed", x.seed(v), was);
            due("drift", x.drift(1), 0);
            due("seed behind a year", seedOf(x), next(next(v)));
            due("drift", x.drift(99), 0);
            long s = v;
            for (int i = 0; i < 200; i++) s = next(s);
            due("seed behind a hundred years", seedOf(x), s);
            was = (int) s;
        }
        due("out of bounds", x.seed(-1), OUTSIDE);
        due("out of bounds", x.seed(LOW), OUTSIDE);
        due("as it was", x.seed(HIGH), was);
        due("the most", x.seed(0), HIGH);
        due("the least", x.seed(0), 0);
    }

    private static long draw(long seed, int n) {
        return seed / 65536 % n;
    }

    /** One strip at the pole by its own seam: no unpicking may be, so what is less is the wind, 0 to 2. */
    private static void drawsOfAYear() {
        StripFlag x = made("colours 1;strip 0;pole 0 9;");
        boolean[] winds = new boolean[3], firsts = new boolean[3];
        for (int v : SEEDS) {
            x.sew(0, 9);
            x.seed(v);
            long s = next(v);
            firsts[(int) draw(s, 3)] = true;
            if (draw(s, 3) == 0) s = next(s);
            s = next(s);
            winds[(int) draw(s, 3)] = true;
            due("drift by " + v, x.drift(1), 1);
            due("the seed", seedOf(x), s);
            due("the wind", 9 - x.seam(0, 2), draw(s, 3));
        }
        for (int w = 0; w < 3; w++) due("draw " + w + " was seen", firsts[w] && winds[w] ? 1 : 0, 1);
    }

    /** A year of two strips: whichever seam a parish draws goes, if it may be; gone ones are drawn, too. */
    private static void drawnSeams() {
        String text = "colours 1;strip 0;strip 0;pole 0 9;pole 0 9;pole 1 9;pole 1 9;seam 0 1 9;";
        boolean[] gone = new boolean[6];
        for (int seed = 1; seed < 40; seed++) {
            StripFlag x = made(text);
            x.sew(3, 0);
            x.hem(1, true);
            x.seed(seed);
            long s = seed;
            int sewn = 31 - 8;
            for (int a = 0; a < 2; a++) {
                s = next(s);
                if (draw(s, 3) != 0) continue;
                s = next(s);
                int drawn = (int) draw(s, 5);
                boolean ofTheOther = a == 0 ? drawn == 2 : drawn == 0;
                if (ofTheOther) sewn &= ~(1 << drawn);
                gone[ofTheOther ? drawn : drawn == 3 ? 3 : 5] = true;
            }
            s = next(s);
            due("drift by " + seed, x.drift(1), 3);
            due("what is not gone", x.told(5), sewn);
            due("the seed", seedOf(x), s);
        }
        for (int s : new int[] {0, 2, 3, 5}) due("a draw of " + s + " was seen", gone[s] ? 1 : 0, 1);
    }

    private static void images() {
        for (int i = 0; i < 2; i++) {
            StripFlag x = made(FLAG);
            due("not kept", x.goBack(i), NOT);
            due("keep", x.keep(i), 1);
            due("not kept", x.goBack(1 - i), NOT);
            String was = seen(x);
            x.sew(0, 0);
            x.hem(2, true);
            x.dye(1, 2);
            x.seed(9);
            due("goBack", x.goBack(i), 1);
            same("what was so", seen(x), was);
            tell(x, "hem");
            due("a fault", x.flag(), -11);
            due("the image is there", x.goBack(i), 1);
            tell(x, FLAG);
            due("the same flag", x.flag(), 4);
            due("the image is gone", x.goBack(i), NOT);
            due("keep", x.keep(1 - i), 1);
            due("the image is gone", x.goBack(i), NOT);
        }
        // LEFT, THE BOOK and THE TEXT are in no image.
        StripFlag y = made(FLAG);
        y.keep(0);
        y.left(0, 1);
        y.write(0, 4);
        y.feed(3, 0x202020);
        due("goBack", y.goBack(0), 1);
        due("LEFT", y.strip(0, 3), 1);
        due("the book", y.told(8), 1);
        due("the text", y.told(4), 3);
    }

    /** A flag of less behind a flag of all: nothing of the older one is there. */
    private static void flagBehindFlag() {
        StripFlag x = made("colours 1,2,3,4;" + times(8, "strip 3;") + times(12, "pole 7 9;") + times(8, "could 0 0 1;"));
        for (int s = 0; s < 12; s++) x.hem(s, true);
        for (int a = 0; a < 8; a++) x.left(a, 0);
        for (int i = 0; i < 30; i++) x.write(7, 11);
        x.seed(4);
        tell(x, "colours 5;strip 0;pole 0 3;");
        due("flag", x.flag(), 1);
        x.seed(0);
        same("like a new one", seen(x), seen(made("colours 5;strip 0;pole 0 3;")));
        due("a second strip", x.strip(1, 0), UNKNOWN);
        due("a second seam", x.seam(1, 0), UNKNOWN);
        due("a second colour", x.dye(0, 1), UNKNOWN);
        due("a second colour", x.left(0, 2), UNKNOWN);
        due("a second strip", x.lasts(2, 0), UNKNOWN);
        due("no thread", x.thread(1, 0), NONE);
        due("flies", x.flies(3), 1);
        due("flies no more", x.flies(4), 0);
        tell(x, "colours 5;strip 0;strip 0;pole 0 3;seam 0 1 2;could 1 1 8;");
        due("flag", x.flag(), 2);
        same("like a new one", seen(x), seen(made("colours 5;strip 0;strip 0;pole 0 3;seam 0 1 2;could 1 1 8;")));
    }
}
