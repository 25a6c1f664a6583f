import java.util.Random;

/**
 * Runs of calls drawn from fixed seeds, each answered by StripFlag and by PlainFlag.
 * Now and then, and more often behind a refused call, all that can be looked at is compared.
 */
public final class OracleTest {
    // What only asks, with a little that changes, so that a flag stays whole for long.
    private static final String[] ASKING = {
        "unpick", "sew", "hem", "hem", "hem", "cut", "cut", "lasts", "lasts", "lasts", "hems", "hems", "hems", "thread",
        "thread", "odds", "odds", "turnsOf", "turnsOf", "turnsOf", "colours", "left", "left", "fits", "sure", "sure", "write",
        "write", "tear", "judge", "keep", "goBack"};
    private static final String[] ALL = {
        "told", "seam", "strip", "flies", "unpick", "unpick", "sew", "sew", "hem", "hem", "fray", "dye", "drift", "cut",
        "lasts", "hems", "thread", "odds", "turnsOf", "colours", "left", "left", "fits", "sure", "write", "write", "tear",
        "judge", "judge", "seed", "keep", "goBack", "fault", "feed", "flag"};

    // What an object answers behind its 512th call is free.
    private static final int CALLS_MOST = 512;

    private final Random random;
    private StripFlag x = new StripFlag();
    private PlainFlag y = new PlainFlag();
    private int calls;
    private int wrong;
    private final StringBuilder log = new StringBuilder();

    private OracleTest(long seed) {
        random = new Random(seed);
    }

    public static void main(String[] args) {
        int passed = 0, failed = 0;
        for (int run = 0; run < 3000; run++) {
            OracleTest t = new OracleTest(run);
            t.runFlag(run % 2 == 0 ? ALL : ASKING);
            if (t.wrong == 0) passed++; else failed++;
        }
        for (int run = 0; run < 2500; run++) {
            OracleTest t = new OracleTest(100000 + run);
            t.runTexts(20);
            if (t.wrong == 0) passed++; else failed++;
        }
        System.out.println("OracleTest: " + passed + " runs as due, " + failed + " not");
        if (failed > 0) System.exit(1);
    }

    private void runFlag(String[] which) {
        tell(flagText());
        due("flag()", x.flag(), y.flag());
        while (wrong == 0 && calls < CALLS_MOST - 100) {
            String call = which[random.nextInt(which.length)];
            boolean isRare = call.equals("flag") || call.equals("drift") || call.equals("fray");
            both(isRare && random.nextInt(3) > 0 ? "odds" : call);
        }
        look();
    }

    private void runTexts(int texts) {
        for (int i = 0; i < texts && wrong == 0 && calls < CALLS_MOST - 300; i++) {
            tell(spoiled(random.nextInt(4) == 0 ? fullText() : flagText()));
            due("flag()", x.flag(), y.flag());
            due("fault()", x.fault(), y.fault());
            for (int what = 0; what < 9; what++) due("told(" + what + ")", x.told(what), y.told(what));
        }
        look();
    }

    private void due(String call, int got, int want) {
        calls++;
        if (calls > CALLS_MOST) throw new IllegalStateException("too many calls");
        log.append(call).append(" -> ").append(got).append('\n');
        if (got != want) {
            wrong++;
            System.out.println(log + "^ due is " + want + "\n");
        }
    }

    private void tell(String text) {
        log.append("text '").append(text).append("'\n");
        int i = 0;
        while (i < text.length()) {
            int n = Math.min(random.nextInt(3) > 0 ? 8 : 1 + random.nextInt(8), text.length() - i);
            long bytes = random.nextLong();
            for (int j = 0; j < n; j++) bytes = bytes << 8 | text.charAt(i + j);
            due("feed(" + n + ", " + bytes + ")", x.feed(n, bytes), y.feed(n, bytes));
            i += n;
        }
    }

    // ---- texts

    private String gap() {
        return random.nextInt(8) == 0 ? "  ".substring(random.nextInt(2)) : "";
    }

    private String colours() {
        StringBuilder s = new StringBuilder("colours" + gap());
        int n = 1 + random.nextInt(4);
        int top = random.nextBoolean() ? 100 : 3;
        for (int k = 0; k < n; k++) s.append(k > 0 ? "," : " ").append(gap()).append(random.nextInt(top)).append(gap());
        return s.append(";").toString() + n;
    }

    private String flagText() {
        String head = colours();
        int colours = head.charAt(head.length() - 1) - '0';
        int strips = random.nextInt(9), seams = random.nextInt(13), coulds = random.nextInt(9);
        if (random.nextInt(4) > 0) strips = 3 + random.nextInt(4);
        if (random.nextBoolean()) seams = 10 + random.nextInt(3);
        StringBuilder s = new StringBuilder(gap() + head.substring(0, head.length() - 1) + gap());
        int top = random.nextBoolean() ? 9 : 2;
        int told = 0;
        while (told < strips || strips > 0 && seams + coulds > 0) {
            int pick = random.nextInt(4);
            int a = told == 0 ? 0 : random.nextInt(told);
            int b = told == 0 ? 0 : random.nextInt(told);
            if (told == 0 || told < strips && pick < 2) {
                s.append("strip").append(gap()).append(random.nextInt(colours));
                told++;
            } else if (seams > 0 && pick < 3) {
                seams--;
                boolean pole = a == b || random.nextInt(4) == 0;
                s.append(pole ? "pole " + gap() + a : "seam " + a + " " + gap() + b);
                s.append(" ").append(1 + random.nextInt(top));
            } else if (coulds > 0) {
                coulds--;
                s.append("could ").append(a).append(" ").append(b).append(" ").append(random.nextInt(10));
            } else if (seams > 0 || told < strips) {
                continue;
            }
            s.append(gap()).append(";").append(gap());
        }
        return s.length() > 500 ? s.substring(0, 500) : s.toString();
    }

    /** One that stands at every limit, so that one clause more is a fault. */
    private String fullText() {
        StringBuilder s = new StringBuilder("colours 1,2,3,4;");
        int[] many = {8, 12, 8};
        String[] words = {"strip ", "seam ", "could "};
        for (int i = 0; i < 3; i++) {
            int n = many[i] + random.nextInt(3) - 1;
            for (int k = 0; k < n; k++) {
                if (i == 0) {
                    s.append(words[i]).append(k % 4).append(";");
                } else if (i == 1 && k % 2 == 0) {
                    s.append("pole ").append(k % 7).append(" 1;");
                } else {
                    s.append(words[i]).append(k % 7).append(" ").append((k + 1) % 7).append(" 1;");
                }
            }
        }
        return s.toString();
    }

    private String spoiled(String text) {
        StringBuilder s = new StringBuilder(text);
        String[] bits = {"a", "9", " ", ";", ",", "colours", "strip", "seam", "pole", "could", "0", "100", "00", "0000", "Z",
            "\u0000", "\u00ff", "\t", " 7 ", "seam 1 1 1;", "seam 0 0000 1;", "{", "`", "/", ":"};
        int many = random.nextInt(3);
        for (int i = 0; i < many; i++) {
            int at = random.nextInt(s.length() + 1);
            String bit = bits[random.nextInt(bits.length)];
            switch (random.nextInt(4)) {
                case 0:
                    s.insert(at, bit);
                    break;
                case 1:
                    s.delete(at, Math.min(s.length(), at + 1 + random.nextInt(3)));
                    break;
                case 2:
                    s.replace(at, Math.min(s.length(), at + bit.length()), bit);
                    break;
                default:
                    s.setLength(at);
            }
        }
        return s.length() > 500 ? s.substring(0, 500) : s.toString();
    }

    // ---- calls

    /** Mostly a number that there is, sometimes one that there is not. */
    private int near(int many) {
        int[] odd = {-1, many, many + 1, Integer.MAX_VALUE, Integer.MIN_VALUE, -2, 31, 32, 64};
        return random.nextInt(14) == 0 ? odd[random.nextInt(odd.length)] : many <= 0 ? 0 : random.nextInt(many);
    }

    private void both(String call) {
        int answer = ask(call);
        boolean refused = answer <= StripFlag.UNKNOWN;
        if (wrong == 0 && random.nextInt(refused ? 5 : 20) == 0 && calls < CALLS_MOST - 200) look();
    }

    private int ask(String call) {
        int strips = y.told(1), seams = y.told(2), colours = y.told(0);
        int a = near(strips), b = near(strips), s = near(seams), w = near(10), set = near(1 << strips);
        switch (call) {
            case "told": return say("told(" + w + ")", x.told(w), y.told(w));
            case "seam": w = near(4); return say("seam(" + s + "," + w + ")", x.seam(s, w), y.seam(s, w));
            case "strip": w = near(4); return say("strip(" + a + "," + w + ")", x.strip(a, w), y.strip(a, w));
            case "flies": return say("flies(" + w + ")", x.flies(w), y.flies(w));
            case "unpick": return say("unpick(" + a + "," + s + ")", x.unpick(a, s), y.unpick(a, s));
            case "sew": return say("sew(" + s + "," + w + ")", x.sew(s, w), y.sew(s, w));
            case "hem": boolean is = random.nextInt(3) > 0; return say("hem(" + s + "," + is + ")", x.hem(s, is), y.hem(s, is));
            case "fray": w = near(5); return say("fray(" + w + ")", x.fray(w), y.fray(w));
            case "dye": int k = near(colours); return say("dye(" + a + "," + k + ")", x.dye(a, k), y.dye(a, k));
            case "drift": w = near(random.nextInt(9) == 0 ? 100 : 3); return say("drift(" + w + ")", x.drift(w), y.drift(w));
            case "cut": w = near(2); return say("cut(" + a + "," + w + ")", x.cut(a, w), y.cut(a, w));
            case "lasts": w = near(4); return say("lasts(" + set + "," + w + ")", x.lasts(set, w), y.lasts(set, w));
            case "hems": w = 1 + near(2); return say("hems(" + set + "," + w + ")", x.hems(set, w), y.hems(set, w));
            default: return askMore(call, a, b, s);
        }
    }

    private int askMore(String call, int a, int b, int s) {
        int n = near(3), q = near(101), two = near(2), five = near(5), colours = y.told(0);
        switch (call) {
            case "thread": return say("thread(" + n + "," + two + ")", x.thread(n, two), y.thread(n, two));
            case "odds": return say("odds(" + a + "," + q + ")", x.odds(a, q), y.odds(a, q));
            case "turnsOf":
                return say("turnsOf(" + a + "," + b + "," + five + "," + two + ")", x.turnsOf(a, b, five, two), y.turnsOf(a, b, five, two));
            case "colours": int c = random.nextBoolean() ? -1 : a; return say("colours(" + c + ")", x.colours(c), y.colours(c));
            case "left": int set = near(1 << colours); return say("left(" + a + "," + set + ")", x.left(a, set), y.left(a, set));
            case "fits": return say("fits()", x.fits(), y.fits());
            case "sure": return say("sure(" + a + ")", x.sure(a), y.sure(a));
            case "write": return say("write(" + a + "," + s + ")", x.write(a, s), y.write(a, s));
            case "tear": return random.nextInt(4) > 0 ? 0 : say("tear()", x.tear(), y.tear());
            case "judge": return say("judge()", x.judge(), y.judge());
            case "seed": int v = random.nextInt(); return say("seed(" + v + ")", x.seed(v), y.seed(v));
            case "keep": return say("keep(" + two + ")", x.keep(two), y.keep(two));
            case "goBack": return say("goBack(" + two + ")", x.goBack(two), y.goBack(two));
            case "fault": return say("fault()", x.fault(), y.fault());
            case "feed": int m = near(9); long l = random.nextLong(); return say("feed(" + m + "," + l + ")", x.feed(m, l), y.feed(m, l));
            default: return askFlag();
        }
    }

    private int askFlag() {
        if (calls > CALLS_MOST - 300) return 0;
        if (random.nextInt(8) > 0) tell(random.nextInt(3) == 0 ? spoiled(flagText()) : flagText());
        return say("flag()", x.flag(), y.flag());
    }

    private int say(String call, int got, int want) {
        due(call, got, want);
        return got;
    }

    private void look() {
        for (int what = -1; what < 10; what++) due("told(" + what + ")", x.told(what), y.told(what));
        for (int s = 0; s < y.told(2); s++) {
            for (int what = 0; what < 4; what++) due("seam(" + s + "," + what + ")", x.seam(s, what), y.seam(s, what));
        }
        for (int a = 0; a < y.told(1); a++) {
            for (int what = 0; what < 4; what++) due("strip(" + a + "," + what + ")", x.strip(a, what), y.strip(a, what));
        }
        due("fault()", x.fault(), y.fault());
        due("judge()", x.judge(), y.judge());
    }
}
