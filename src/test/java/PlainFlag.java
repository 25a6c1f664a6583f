import java.util.ArrayList;
import java.util.List;

/**
 * The document once more, word by word and without any short cut, for the tests to compare with.
 * It shares no idea with StripFlag beyond the document: every set is tried, every order is played.
 */
final class PlainFlag {
    static final int NONE = -1, UNKNOWN = -1000000001, OUTSIDE = -1000000002, NOT = -1000000003, FULL = -1000000004;

    /** A seam, one that could be sewn, too; b is NONE for the pole. */
    static final class Seam {
        int a, b, strength, thread;
        boolean hem;

        Seam(int a, int b, int strength, int thread) {
            this.a = a;
            this.b = b;
            this.strength = strength;
            this.thread = thread;
        }

        Seam twin() {
            Seam t = new Seam(a, b, strength, thread);
            t.hem = hem;
            return t;
        }
    }

    // No byte has this number, so no fed sign can look like the end.
    private static final char END = 256;

    static final class Token {
        final char kind;
        final String word;
        final int place;

        Token(char kind, String word, int place) {
            this.kind = kind;
            this.word = word;
            this.place = place;
        }
    }

    static final class Image {
        List<Seam> seams = new ArrayList<>();
        List<Integer> dyes = new ArrayList<>();
        long seed;
    }

    private String text = "";
    private int faultPlace = NONE;
    private List<Integer> prices = new ArrayList<>();
    private List<Integer> dyes = new ArrayList<>();
    private List<Seam> seams = new ArrayList<>();
    private List<Seam> coulds = new ArrayList<>();
    private List<Integer> lefts = new ArrayList<>();
    private List<int[]> book = new ArrayList<>();
    private Image[] images = new Image[2];
    private long seed;

    int feed(int n, long bytes) {
        if (n < 1 || n > 8) return OUTSIDE;
        if (text.length() + n > 500) return FULL;
        for (int i = n - 1; i >= 0; i--) text += (char) ((bytes >>> (8 * i)) & 255);
        return text.length();
    }

    // ---- reading

    private List<Token> tokens() {
        List<Token> all = new ArrayList<>();
        int i = 0;
        while (i < text.length()) {
            char c = text.charAt(i);
            int start = i;
            i++;
            if (c == ' ') continue;
            boolean letter = c >= 'a' && c <= 'z';
            boolean figure = c >= '0' && c <= '9';
            if (letter) while (i < text.length() && text.charAt(i) >= 'a' && text.charAt(i) <= 'z') i++;
            if (figure) while (i < text.length() && text.charAt(i) >= '0' && text.charAt(i) <= '9') i++;
            all.add(new Token(letter ? 'w' : figure ? 'n' : c, text.substring(start, i), start));
        }
        all.add(new Token(END, "", text.length()));
        return all;
    }

    @SuppressWarnings("serial")
    private static final class Fault extends RuntimeException {
        final int number, place;

        Fault(int number, int place) {
            super(null, null, false, false);
            this.number = number;
            this.place = place;
        }
    }

    private static int number(Token t, int low, int high) {
        if (t.kind != 'n') throw new Fault(1, t.place);
        if (t.word.length() > 3) throw new Fault(2, t.place);
        int v = Integer.parseInt(t.word);
        if (v < low || v > high) throw new Fault(2, t.place);
        return v;
    }

    int flag() {
        List<Token> all = tokens();
        List<Integer> newPrices = new ArrayList<>(), newDyes = new ArrayList<>();
        List<Seam> newSeams = new ArrayList<>(), newCoulds = new ArrayList<>();
        text = "";
        faultPlace = NONE;
        try {
            int i = 0;
            boolean first = true;
            while (all.get(i).kind != END) {
                Token head = all.get(i++);
                if (head.kind != 'w') throw new Fault(1, head.place);
                if (first != head.word.equals("colours") && first) throw new Fault(1, head.place);
                if (head.word.equals("colours")) {
                    if (!first) throw new Fault(3, head.place);
                    newPrices.add(number(all.get(i++), 0, 99));
                    while (all.get(i).kind == ',') {
                        if (newPrices.size() == 4) throw new Fault(1, all.get(i).place);
                        i++;
                        newPrices.add(number(all.get(i++), 0, 99));
                    }
                } else if (head.word.equals("strip")) {
                    if (newDyes.size() == 8) throw new Fault(3, head.place);
                    newDyes.add(number(all.get(i++), 0, newPrices.size() - 1));
                } else if (head.word.equals("pole")) {
                    if (newSeams.size() == 12) throw new Fault(3, head.place);
                    int a = number(all.get(i++), 0, newDyes.size() - 1);
                    newSeams.add(new Seam(a, NONE, number(all.get(i++), 1, 9), 0));
                } else if (head.word.equals("seam")) {
                    if (newSeams.size() == 12) throw new Fault(3, head.place);
                    int a = number(all.get(i++), 0, newDyes.size() - 1);
                    int b = number(all.get(i), 0, newDyes.size() - 1);
                    if (a == b) throw new Fault(4, all.get(i).place);
                    i++;
                    newSeams.add(new Seam(a, b, number(all.get(i++), 1, 9), 0));
                } else if (head.word.equals("could")) {
                    if (newCoulds.size() == 8) throw new Fault(3, head.place);
                    int a = number(all.get(i++), 0, newDyes.size() - 1);
                    int b = number(all.get(i++), 0, newDyes.size() - 1);
                    newCoulds.add(new Seam(a, a == b ? NONE : b, 9, number(all.get(i++), 0, 99)));
                } else {
                    throw new Fault(1, head.place);
                }
                if (all.get(i).kind != ';') throw new Fault(1, all.get(i).place);
                i++;
                first = false;
            }
        } catch (Fault f) {
            faultPlace = f.place;
            return -10 - f.number;
        }
        prices = newPrices;
        dyes = newDyes;
        seams = newSeams;
        coulds = newCoulds;
        lefts = new ArrayList<>();
        for (int a = 0; a < dyes.size(); a++) lefts.add((1 << prices.size()) - 1);
        book = new ArrayList<>();
        images = new Image[2];
        return dyes.size();
    }

    int fault() {
        return faultPlace;
    }

    // ---- looking

    int told(int what) {
        int set = 0;
        switch (what) {
            case 0: return prices.size();
            case 1: return dyes.size();
            case 2: return seams.size();
            case 3: return coulds.size();
            case 4: return text.length();
            case 5:
                for (int s = 0; s < seams.size(); s++) if (seams.get(s).strength > 0) set += 1 << s;
                return set;
            case 6:
                for (int s = 0; s < seams.size(); s++) if (seams.get(s).hem) set += 1 << s;
                return set;
            case 7:
                for (int k : dyes) set += prices.get(k);
                return set;
            case 8: return book.size();
            default: return OUTSIDE;
        }
    }

    private boolean noStrip(int a) {
        return a < 0 || a >= dyes.size();
    }

    private boolean noSeam(int s) {
        return s < 0 || s >= seams.size();
    }

    private boolean noStrips(int set) {
        return set < 0 || set >= 1 << dyes.size();
    }

    int seam(int s, int what) {
        if (noSeam(s)) return UNKNOWN;
        Seam x = seams.get(s);
        switch (what) {
            case 0: return x.a;
            case 1: return x.b;
            case 2: return x.strength;
            case 3: return x.hem ? 1 : 0;
            default: return OUTSIDE;
        }
    }

    private static boolean borders(List<Seam> sewn, int a, int b) {
        for (Seam x : sewn) {
            if (x.strength > 0 && (x.a == a && x.b == b || x.a == b && x.b == a)) return true;
        }
        return false;
    }

    int strip(int a, int what) {
        if (noStrip(a)) return UNKNOWN;
        int set = 0;
        switch (what) {
            case 0: return dyes.get(a);
            case 1:
                for (int s = 0; s < seams.size(); s++) {
                    Seam x = seams.get(s);
                    if (x.strength > 0 && (x.a == a || x.b == a)) set += 1 << s;
                }
                return set;
            case 2:
                for (int b = 0; b < dyes.size(); b++) if (b != a && borders(seams, a, b)) set += 1 << b;
                return set;
            case 3: return lefts.get(a);
            default: return OUTSIDE;
        }
    }

    private int flying(List<Seam> sewn, int wind) {
        boolean[] held = new boolean[dyes.size()];
        for (Seam x : sewn) if (x.b == NONE && x.strength > 0 && x.strength >= wind) climb(sewn, wind, x.a, held);
        int set = 0;
        for (int a = 0; a < held.length; a++) if (held[a]) set += 1 << a;
        return set;
    }

    private void climb(List<Seam> sewn, int wind, int a, boolean[] held) {
        if (held[a]) return;
        held[a] = true;
        for (Seam x : sewn) {
            if (x.b == NONE || x.strength == 0 || x.strength < wind) continue;
            if (x.a == a) climb(sewn, wind, x.b, held);
            if (x.b == a) climb(sewn, wind, x.a, held);
        }
    }

    int flies(int w) {
        return w < 0 || w > 9 ? OUTSIDE : flying(seams, w);
    }

    // ---- doing

    private boolean mayUnpick(List<Seam> sewn, int a, int s) {
        Seam x = sewn.get(s);
        if (x.strength == 0 || x.hem || x.a == a || x.b == a) return false;
        return borders(sewn, a, x.a) || x.b != NONE && borders(sewn, a, x.b);
    }

    int unpick(int a, int s) {
        if (noStrip(a) || noSeam(s)) return UNKNOWN;
        if (!mayUnpick(seams, a, s)) return NOT;
        seams.get(s).strength = 0;
        int n = 0;
        for (Seam x : seams) if (x.strength > 0) n++;
        return n;
    }

    int sew(int s, int n) {
        if (noSeam(s)) return UNKNOWN;
        if (n < 0 || n > 9) return OUTSIDE;
        int was = seams.get(s).strength;
        seams.get(s).strength = n;
        return was;
    }

    int hem(int s, boolean is) {
        if (noSeam(s)) return UNKNOWN;
        int was = seams.get(s).hem ? 1 : 0;
        seams.get(s).hem = is;
        return was;
    }

    int fray(int w) {
        if (w < 0 || w > 9) return OUTSIDE;
        boolean[] loose = new boolean[seams.size()];
        for (int a = 0; a < dyes.size(); a++) {
            int n = 0, last = 0;
            for (int s = 0; s < seams.size(); s++) {
                Seam x = seams.get(s);
                if (x.strength > 0 && (x.a == a || x.b == a)) {
                    n++;
                    last = s;
                }
            }
            if (n == 1) loose[last] = true;
        }
        int gone = 0;
        for (int s = 0; s < seams.size(); s++) {
            if (!loose[s]) continue;
            Seam x = seams.get(s);
            x.strength = x.strength > w ? x.strength - w : 0;
            if (x.strength == 0) gone += 1 << s;
        }
        return gone;
    }

    int dye(int a, int k) {
        if (noStrip(a) || k < 0 || k >= prices.size()) return UNKNOWN;
        return dyes.set(a, k);
    }

    private int draw(int n) {
        seed = Math.floorMod(seed * 1103515245L + 12345L, 2147483648L);
        return (int) (seed / 65536 % n);
    }

    int drift(int n) {
        if (n < 1 || n > 99) return OUTSIDE;
        if (dyes.isEmpty()) return NOT;
        for (int y = 0; y < n; y++) {
            for (int a = 0; a < dyes.size(); a++) {
                if (draw(3) != 0 || seams.isEmpty()) continue;
                int s = draw(seams.size());
                if (mayUnpick(seams, a, s)) seams.get(s).strength = 0;
            }
            fray(draw(3));
        }
        return flying(seams, 0);
    }

    // ---- trying

    private static List<Seam> without(List<Seam> sewn, int set) {
        List<Seam> rest = new ArrayList<>();
        for (int s = 0; s < sewn.size(); s++) {
            Seam x = sewn.get(s).twin();
            if ((set >> s & 1) != 0) x.strength = 0;
            rest.add(x);
        }
        return rest;
    }

    int cut(int a, int what) {
        if (noStrip(a)) return UNKNOWN;
        if (what != 0 && what != 1) return OUTSIDE;
        for (int n = 0; n <= seams.size(); n++) {
            for (int set = 0; set < 1 << seams.size(); set++) {
                if (Integer.bitCount(set) != n || (set & ~told(5)) != 0) continue;
                if ((flying(without(seams, set), 0) >> a & 1) == 0) return what == 0 ? n : set;
            }
        }
        throw new IllegalStateException("no cut");
    }

    private boolean lasting(List<Seam> sewn, int set, int n, int from) {
        if ((flying(sewn, 0) & set) != set) return false;
        if (n == 0) return true;
        for (int s = from; s < sewn.size(); s++) {
            Seam x = sewn.get(s);
            if (x.hem || x.strength == 0) continue;
            int was = x.strength;
            x.strength = 0;
            boolean lasts = lasting(sewn, set, n - 1, s + 1);
            x.strength = was;
            if (!lasts) return false;
        }
        return true;
    }

    int lasts(int set, int n) {
        if (noStrips(set)) return UNKNOWN;
        if (n < 0 || n > 3) return OUTSIDE;
        return lasting(seams, set, n, 0) ? 1 : 0;
    }

    int hems(int set, int n) {
        if (noStrips(set)) return UNKNOWN;
        if (n < 1 || n > 2) return OUTSIDE;
        int free = told(5) & ~told(6);
        for (int many = 0; many <= seams.size(); many++) {
            for (int h = 0; h < 1 << seams.size(); h++) {
                if (Integer.bitCount(h) != many || (h & ~free) != 0) continue;
                List<Seam> tried = without(seams, 0);
                for (int s = 0; s < tried.size(); s++) if ((h >> s & 1) != 0) tried.get(s).hem = true;
                if (lasting(tried, set, n, 0)) return h;
            }
        }
        return NONE;
    }

    int thread(int n, int what) {
        if (n < 0 || n > 2 || what < 0 || what > 1) return OUTSIDE;
        int best = NONE, bestSum = Integer.MAX_VALUE;
        for (int set = 0; set < 1 << coulds.size(); set++) {
            List<Seam> tried = without(seams, 0);
            int sum = 0;
            for (int c = 0; c < coulds.size(); c++) {
                if ((set >> c & 1) == 0) continue;
                tried.add(coulds.get(c).twin());
                sum += coulds.get(c).thread;
            }
            if (sum < bestSum && lasting(tried, (1 << dyes.size()) - 1, n, 0)) {
                best = set;
                bestSum = sum;
            }
        }
        return what == 1 || best == NONE ? best : bestSum;
    }

    private long part(List<Seam> sewn, int s, int a, int q, long part) {
        if (s == sewn.size()) return (flying(sewn, 0) >> a & 1) != 0 ? part : 0;
        Seam x = sewn.get(s);
        if (x.hem || x.strength == 0) return part(sewn, s + 1, a, q, part);
        long goes = part * q / 100;
        long stays = part(sewn, s + 1, a, q, part - goes);
        int was = x.strength;
        x.strength = 0;
        long together = stays + part(sewn, s + 1, a, q, goes);
        x.strength = was;
        return together;
    }

    int odds(int a, int q) {
        if (noStrip(a)) return UNKNOWN;
        if (q < 0 || q > 100) return OUTSIDE;
        return (int) part(seams, 0, a, q, 1000000000L);
    }

    /** First less second, and at [1] what the mover takes. */
    private int[] play(List<Seam> sewn, int a, int b, int n, boolean first) {
        if (n == 0) {
            int f = flying(sewn, 0);
            int fa = f >> a & 1, fb = f >> b & 1;
            return new int[] {2 * fa - fb - (2 * fb - fa), NONE};
        }
        int best = play(sewn, a, b, n - 1, !first)[0];
        int taken = NONE;
        for (int s = 0; s < sewn.size(); s++) {
            if (!mayUnpick(sewn, first ? a : b, s)) continue;
            int v = play(without(sewn, 1 << s), a, b, n - 1, !first)[0];
            if (first ? v > best : v < best) {
                best = v;
                taken = s;
            }
        }
        return new int[] {best, taken};
    }

    int turnsOf(int a, int b, int n, int what) {
        if (noStrip(a) || noStrip(b) || a == b) return UNKNOWN;
        if (n < 0 || n > 4 || what < 0 || what > 1) return OUTSIDE;
        return play(seams, a, b, n, true)[what];
    }

    /** All ways to colour, the first strip's colour changing slowest; only those where no two that border are alike. */
    private List<int[]> ways(boolean bound) {
        List<int[]> all = new ArrayList<>();
        int n = dyes.size(), k = prices.size();
        boolean[][] near = new boolean[n][n];
        for (int a = 0; a < n; a++) for (int b = 0; b < n; b++) near[a][b] = a != b && borders(seams, a, b);
        long many = 1;
        for (int a = 0; a < n; a++) many *= k;
        for (long code = 0; code < many; code++) {
            int[] way = new int[n];
            long rest = code;
            for (int a = n - 1; a >= 0; a--) {
                way[a] = (int) (rest % k);
                rest /= k;
            }
            boolean fine = true;
            for (int a = 0; a < n && fine; a++) {
                if (bound && (lefts.get(a) >> way[a] & 1) == 0) fine = false;
                for (int b = 0; b < a && fine; b++) if (near[a][b] && way[a] == way[b]) fine = false;
            }
            if (fine) all.add(way);
        }
        return all;
    }

    int colours(int a) {
        if (a != NONE && noStrip(a)) return UNKNOWN;
        int[] best = null;
        int bestSum = 0;
        for (int[] way : ways(false)) {
            int sum = 0;
            for (int k : way) sum += prices.get(k);
            if (best == null || sum < bestSum) {
                best = way;
                bestSum = sum;
            }
        }
        if (best == null) return NONE;
        return a == NONE ? bestSum : best[a];
    }

    int left(int a, int set) {
        if (noStrip(a) || set < 0 || set >= 1 << prices.size()) return UNKNOWN;
        return lefts.set(a, set);
    }

    int fits() {
        return ways(true).size();
    }

    int sure(int a) {
        if (noStrip(a)) return UNKNOWN;
        int set = 0;
        for (int[] way : ways(true)) set |= 1 << way[a];
        for (int k = 0; k < 4; k++) if (set == 1 << k) return k;
        return NONE;
    }

    // ---- books, draws, images

    int write(int a, int s) {
        if (noStrip(a) || noSeam(s)) return UNKNOWN;
        if (book.size() == 30) return FULL;
        book.add(new int[] {a, s});
        return book.size();
    }

    int tear() {
        int was = book.size();
        book.clear();
        return was;
    }

    int judge() {
        List<Seam> tried = without(seams, 0);
        for (int i = 0; i < book.size(); i++) {
            int[] entry = book.get(i);
            if (!mayUnpick(tried, entry[0], entry[1])) return i;
            tried.get(entry[1]).strength = 0;
        }
        return NONE;
    }

    int seed(int v) {
        if (v < 0) return OUTSIDE;
        int was = (int) seed;
        seed = v;
        return was;
    }

    int keep(int i) {
        if (i != 0 && i != 1) return UNKNOWN;
        Image image = new Image();
        image.seams = without(seams, 0);
        image.dyes = new ArrayList<>(dyes);
        image.seed = seed;
        images[i] = image;
        return 1;
    }

    int goBack(int i) {
        if (i != 0 && i != 1) return UNKNOWN;
        if (images[i] == null) return NOT;
        seams = without(images[i].seams, 0);
        dyes = new ArrayList<>(images[i].dyes);
        seed = images[i].seed;
        return 1;
    }
}
