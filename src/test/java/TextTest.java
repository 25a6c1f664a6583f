/** Each sentence of the document on what a text may be and which byte has its first FAULT, at its bounds. */
public final class TextTest extends Check {
    private static final String TWO = "colours 1,2;strip 0;strip 1;";

    public static void main(String[] args) {
        coloursFirst();
        coloursOnce();
        oneToFourColours();
        prices();
        stripsOfColours();
        stripsToldAhead();
        strengths();
        threads();
        severalBetweenTwo();
        anyOrder();
        figures();
        letters();
        blanks();
        otherBytes();
        endsAnywhere();
        leastOfSeveral();
        firstOfSeveral();
        emptyTexts();
        toldAnew();
        end("TextTest");
    }

    private static void coloursFirst() {
        for (String word : new String[] {"strip", "pole", "seam", "could", "hem", "colour", "colourss", "x"}) {
            reads(word + " 0;", 1, 0);
            reads(" " + word, 1, 1);
            reads(word + " 0;colours 1;", 1, 0);
            reads(word + "colours 1;", 1, 0);
        }
        reads("colours 1;", 0, NONE);
        reads("0 colours 1;", 1, 0);
        reads(",", 1, 0);
        reads("; colours 1;", 1, 0);
    }

    private static void coloursOnce() {
        reads("colours 1;colours 1;", 3, 10);
        reads("colours 1; colours", 3, 11);
        reads(TWO + "pole 0 1;colours 1;", 3, TWO.length() + 9);
        reads(TWO + "coloursx 1;", 1, TWO.length());
        reads(TWO + "colours", 3, TWO.length());
        reads(TWO + "colours;", 3, TWO.length());
        // Where no clause begins, no word can stand at all.
        reads("colours colours 1;", 1, 8);
        reads("colours 1 colours 2;", 1, 10);
        reads("colours 1,colours", 1, 10);
        reads(TWO + "strip colours", 1, TWO.length() + 6);
        reads(TWO + "strip 0 colours", 1, TWO.length() + 8);
    }

    private static void oneToFourColours() {
        String text = "colours 9";
        for (int k = 1; k <= 4; k++) {
            StripFlag x = made(text + ";");
            due("colours", x.told(0), k);
            reads(text + ";strip " + (k - 1) + ";", 0, NONE);
            text += ",9";
        }
        reads("colours ;", 1, 8);
        reads("colours;", 1, 7);
        reads("colours", 1, 7);
        reads("colours ,9;", 1, 8);
        reads("colours 9,9,9,9,9;", 1, 15);
        reads("colours 9,9,9,9,", 1, 15);
        reads("colours 9,9,9,9 ,9;", 1, 16);
        reads("colours 9,9,9,9,1000;", 1, 15);
        reads("colours 9,,9;", 1, 10);
        reads("colours 9,;", 1, 10);
        reads("colours 9 9;", 1, 10);
        reads("colours 9;9;", 1, 10);
    }

    private static void prices() {
        for (int price = 0; price < 100; price++) {
            due("price " + price, made("colours 5," + price + ";strip 1;").told(7), price);
        }
        reads("colours 99;", 0, NONE);
        reads("colours 100;", 2, 8);
        reads("colours 5, 100;", 2, 11);
        reads("colours 5,6,7,999;", 2, 14);
        due("price 007", made("colours 007;strip 0;").told(7), 7);
        due("price 099", made("colours 099;strip 000;").told(7), 99);
        reads("colours 0099;", 2, 8);
        reads("colours 0000;", 2, 8);
    }

    private static void stripsOfColours() {
        String text = "colours 9";
        for (int n = 1; n <= 4; n++) {
            for (int k = 0; k < n; k++) due("colour " + k, made(text + ";strip " + k + ";").strip(0, 0), k);
            reads(text + ";strip " + n + ";", 2, text.length() + 7);
            reads(text + ";strip  99;", 2, text.length() + 8);
            reads(text + ";strip 999;", 2, text.length() + 7);
            text += ",9";
        }
        String many = "colours 9;";
        for (int n = 0; n <= 8; n++) {
            due("strips", made(many).told(1), n);
            many += "strip 0;";
        }
        reads(many, 3, many.length() - 8);
        reads(many.substring(0, many.length() - 7), 1, many.length() - 8);
        reads(many.substring(0, many.length() - 3), 3, many.length() - 8);
        reads(many.substring(0, many.length() - 3) + "s", 1, many.length() - 8);
    }

    /** A STRIP that was not told yet has the FAULT 2 at its first figure, also if a later clause tells it. */
    private static void stripsToldAhead() {
        String head = "colours 1;";
        for (int n = 0; n <= 8; n++) {
            int at = head.length();
            reads(head + "pole " + n + " 1;", 2, at + 5);
            reads(head + "pole  0" + n + " 1;strip 0;", 2, at + 6);
            reads(head + "seam " + n + " 0 1;", 2, at + 5);
            reads(head + "could " + n + " 0 1;", 2, at + 6);
            if (n > 0) {
                reads(head + "pole " + (n - 1) + " 1;", 0, NONE);
                reads(head + "seam 0 " + n + " 1;", 2, at + 7);
                reads(head + "could 0 " + n + " 1;", 2, at + 8);
                reads(head + "could " + (n - 1) + " " + (n - 1) + " 1;", 0, NONE);
            }
            if (n > 1) {
                reads(head + "seam 0 " + (n - 1) + " 1;", 0, NONE);
                reads(head + "seam " + (n - 1) + " 0 1;", 0, NONE);
                reads(head + "seam " + (n - 1) + " " + n + " 1;", 2, at + 7);
            }
            if (n < 8) head += "strip 0;";
        }
    }

    private static void strengths() {
        for (int s = 1; s <= 9; s++) {
            StripFlag x = made(TWO + "pole 0 " + s + ";seam 1 0 00" + s + ";");
            due("strength " + s, x.seam(0, 2), s);
            due("strength " + s, x.seam(1, 2), s);
        }
        for (String s : new String[] {"0", "00", "10", "010", "99", "999", "0001", "1000"}) {
            reads(TWO + "pole 0 " + s + ";", 2, TWO.length() + 7);
            reads(TWO + "seam 0 1 " + s + ";", 2, TWO.length() + 9);
        }
        // One that could be sewn has STRENGTH 9, and no number for it.
        reads(TWO + "could 0 1 1 9;", 1, TWO.length() + 12);
        reads(TWO + "pole 0;", 1, TWO.length() + 6);
        reads(TWO + "seam 0 1;", 1, TWO.length() + 8);
    }

    private static void threads() {
        for (int c = 0; c < 100; c++) {
            StripFlag x = made("colours 1;strip 0;could 0 0 " + c + ";");
            due("thread " + c, x.thread(0, 0), c);
        }
        reads(TWO + "could 0 1 99;", 0, NONE);
        reads(TWO + "could 0 1 100;", 2, TWO.length() + 10);
        reads(TWO + "could 0 1 0000;", 2, TWO.length() + 10);
        reads(TWO + "could 0 1;", 1, TWO.length() + 9);
        reads(TWO + "could 1 1 000;", 0, NONE);
        reads(TWO + "could 0 1 5,", 1, TWO.length() + 11);
    }

    private static void severalBetweenTwo() {
        StripFlag x = made(TWO + "seam 0 1 1;seam 0 1 2;seam 1 0 3;pole 1 4;pole 1 5;could 0 1 1;could 1 0 1;could 1 1 1;could 1 1 1;");
        due("seams", x.told(2), 5);
        due("coulds", x.told(3), 4);
        due("the third has A and B as told", x.seam(2, 0), 1);
        due("the third has A and B as told", x.seam(2, 1), 0);
        due("to the pole", x.seam(4, 1), NONE);
        due("all between the two", x.strip(0, 1), 7);
        due("of the other", x.strip(1, 1), 31);
        reads(TWO + "seam 0 0 1;", 4, TWO.length() + 7);
        reads(TWO + "seam 1 001 1;", 4, TWO.length() + 7);
        reads(TWO + "seam 001   1 1;", 4, TWO.length() + 11);
        reads(TWO + "seam 1 1", 4, TWO.length() + 7);
        reads(TWO + "seam 1 1 0;", 4, TWO.length() + 7);
        reads(TWO + "seam 1 1;", 4, TWO.length() + 7);
        reads(TWO + "could 1 1 1;", 0, NONE);
    }

    private static void anyOrder() {
        StripFlag x = made("colours 1,2;strip 1;pole 0 1;could 0 0 3;strip 0;seam 1 0 2;could 1 0 4;strip 1;seam 2 1 9;pole 2 8;");
        due("strips", x.told(1), 3);
        due("seams", x.told(2), 4);
        due("coulds", x.told(3), 2);
        int[][] want = {{0, -1, 1}, {1, 0, 2}, {2, 1, 9}, {2, -1, 8}};
        for (int s = 0; s < 4; s++) for (int what = 0; what < 3; what++) due("seam " + s, x.seam(s, what), want[s][what]);
        for (int a = 0; a < 3; a++) due("colour " + a, x.strip(a, 0), 1 - a % 2);
    }

    /** NUMBERS have one to three figures. */
    private static void figures() {
        String[] zero = {"0", "00", "000"};
        String[] one = {"1", "01", "001"};
        for (int i = 0; i < 3; i++) {
            String text = TWO + "seam " + one[i] + " " + zero[i] + " " + one[i] + ";could " + zero[i] + " " + one[i] + " " + zero[i] + ";";
            reads(text, 0, NONE);
            reads("colours " + zero[i] + "," + one[i] + ";strip " + one[i] + ";pole " + zero[i] + " " + one[i] + ";", 0, NONE);
        }
        for (String n : new String[] {"0000", "0001", "1000", "9999", "00000", "4294967297", "99999999999999999999"}) {
            reads("colours " + n + ";", 2, 8);
            reads("colours 1," + n + ";", 2, 10);
            reads(TWO + "strip " + n + ";", 2, TWO.length() + 6);
            reads(TWO + "pole " + n + " 1;", 2, TWO.length() + 5);
            reads(TWO + "pole 0 " + n + ";", 2, TWO.length() + 7);
            reads(TWO + "seam " + n + " 1 1;", 2, TWO.length() + 5);
            reads(TWO + "seam 0 " + n + " 1;", 2, TWO.length() + 7);
            reads(TWO + "seam 0 1 " + n + ";", 2, TWO.length() + 9);
            reads(TWO + "could " + n + " 1 1;", 2, TWO.length() + 6);
            reads(TWO + "could 0 " + n + " 1;", 2, TWO.length() + 8);
            reads(TWO + "could 0 1 " + n + ";", 2, TWO.length() + 10);
            // Where no NUMBER can stand that comes first.
            reads(TWO + n, 1, TWO.length());
            reads(TWO + "strip 0 " + n, 1, TWO.length() + 8);
        }
        reads(TWO + "strip 1 0;", 1, TWO.length() + 8);
        reads(TWO + "pole 01;", 1, TWO.length() + 7);
        reads(TWO + "pole 00 1;", 0, NONE);
        reads(TWO + "pole -0 1;", 1, TWO.length() + 5);
        reads(TWO + "pole 0 +1;", 1, TWO.length() + 7);
        reads("colours 1.5;", 1, 9);
    }

    /** Words are letters a .. z side by side. */
    private static void letters() {
        reads("Colours 1;", 1, 0);
        reads("cOlours 1;", 1, 0);
        reads("colourS 1;", 1, 0);
        reads("col\u00f6urs 1;", 1, 0);
        reads("colours1;", 0, NONE);
        reads("colours 1;strip0;pole0 1;", 0, NONE);
        reads("colours 1;strip0 ;strip 0;seam1 0 9;could1 1 9;", 0, NONE);
        reads("colours 1;strip0strip 0;", 1, 16);
        reads("colours 1;stripstrip 0;", 1, 10);
        reads("colours 1;strip strip 0;", 1, 16);
        reads("colours 1;strips 0;", 1, 10);
        reads("colours 1;stri 0;", 1, 10);
        reads("colours 1;strip 0a;", 1, 17);
        reads("colours 1;strip a0;", 1, 16);
        reads("colours 1;strip_0;", 1, 15);
        reads("colours 1a;", 1, 9);
        reads("colours 1 a;", 1, 10);
        reads("colours 1a,2;", 1, 9);
        reads("coloursa 1;", 1, 0);
        reads("colours1strip0;", 1, 8);
        reads("z", 1, 0);
        reads("a", 1, 0);
        // All words but the right ones, by one letter.
        String[] words = {"colours", "strip", "pole", "seam", "could"};
        for (String word : words) {
            for (int i = 0; i < word.length(); i++) {
                String other = word.substring(0, i) + (char) ('a' + (word.charAt(i) - 'a' + 1) % 26) + word.substring(i + 1);
                reads(TWO + other + " 0 1 1;", 1, TWO.length());
            }
            for (int i = 1; i < word.length(); i++) {
                reads(TWO + word.substring(0, i), 1, TWO.length());
                reads(TWO + word.substring(0, i) + " " + word.substring(i) + " 0 1 1;", 1, TWO.length());
            }
        }
    }

    private static void blanks() {
        String text = "colours 1 , 2 ; strip 0 ; strip 1 ; pole 0 1 ; seam 1 0 2 ; could 1 1 3 ;";
        reads(text, 0, NONE);
        for (int many = 1; many <= 5; many++) {
            StripFlag x = made(times(many, " ") + text.replace(" ", times(many, " ")) + times(many, " "));
            due("strips", x.told(1), 2);
            due("seams", x.told(5), 3);
            due("thread", x.thread(1, 0), 3);
        }
        StripFlag least = made("colours1,2;strip0;strip1;pole0 1;seam1 0 2;could1 1 3;");
        due("strips", least.told(1), 2);
        due("seams", least.told(5), 3);
        due("thread", least.thread(1, 0), 3);
        reads("colo urs 1;", 1, 0);
        reads("colours 1 0;", 1, 10);
        reads(TWO + "po le 0 1;", 1, TWO.length());
        // Nothing but 32 is a blank.
        for (int other : new int[] {0, 9, 10, 11, 12, 13, 31, 33, 160, 255}) {
            reads("colours" + (char) other + "1;", 1, 7);
            reads((char) other + "colours 1;", 1, 0);
            reads("colours 1;" + (char) other, 1, 10);
            reads("" + (char) other, 1, 0);
        }
    }

    /** Each of the 256 bytes at each kind of place. */
    private static void otherBytes() {
        for (int c = 0; c < 256; c++) {
            char sign = (char) c;
            boolean figure = sign >= '0' && sign <= '9';
            boolean blank = sign == ' ';
            boolean letter = sign >= 'a' && sign <= 'z';
            reads(sign + "", blank ? 0 : 1, blank ? NONE : 0);
            reads("colours" + sign + "1;", blank || figure ? 0 : 1, blank || figure ? NONE : letter ? 0 : 7);
            reads("colours 1" + sign + ";", blank || figure ? 0 : 1, blank || figure ? NONE : sign == ',' || sign == ';' ? 10 : 9);
            reads("colours 1;" + sign + "strip 0;", blank ? 0 : 1, blank ? NONE : 10);
            boolean ok = blank || sign == '0';
            reads("colours 1;strip " + sign + "0;", ok ? 0 : figure ? 2 : 1, ok ? NONE : 16);
            reads("colours 1;strip 0" + sign + ";", ok ? 0 : figure ? 2 : 1, ok ? NONE : figure ? 16 : sign == ';' ? 18 : 17);
            reads("colours 1;strip 0;" + sign, blank ? 0 : 1, blank ? NONE : 18);
        }
    }

    /** The end has its FAULT at the text's length, unless a clause has just ended. */
    private static void endsAnywhere() {
        String text = "colours 1,2 ;strip 1;strip 0; pole 0 5;seam 1 0 3;could 0 1 7;";
        for (int end = 0; end <= text.length(); end++) {
            String part = text.substring(0, end);
            String clause = part.substring(part.lastIndexOf(';') + 1);
            boolean whole = clause.isBlank();
            int word = part.lastIndexOf(';') + 1 + (clause.startsWith(" ") ? 1 : 0);
            boolean known = clause.strip().matches("(colours|strip|pole|seam|could)( .*)?");
            reads(part, whole ? 0 : 1, whole ? NONE : known ? end : word);
        }
        reads("colours 1,2 ", 1, 12);
        reads("colours 1,2;strip 1   ", 1, 22);
        reads("colours 1,2;strip     ", 1, 22);
        reads("colours 1,2,          ", 1, 22);
    }

    /** Of several at the same byte the least. */
    private static void leastOfSeveral() {
        // 1 before 2: a NUMBER of four figures, or of none of the strips, where none can stand.
        reads(TWO + "9999", 1, TWO.length());
        reads(TWO + "pole 0 1 9999;", 1, TWO.length() + 9);
        reads("colours 1 100;", 1, 10);
        // 1 before 3: 'colours' again, a ninth STRIP, where no word can stand.
        reads("colours 1 colours", 1, 10);
        reads("colours 1;" + times(8, "strip 0;") + "pole 0 strip", 1, 81);
        reads("colours 1;" + times(8, "strip 0;") + "strip 0;", 3, 74);
        // 2 before 4: B like A, of four figures.
        reads(TWO + "seam 0 0000 1;", 2, TWO.length() + 7);
        reads(TWO + "seam 1 0001 1;", 2, TWO.length() + 7);
        reads(TWO + "seam 1 001 1;", 4, TWO.length() + 7);
        // A ninth of what there may be is told at its word, whatever follows.
        reads("colours 1;strip 0;" + times(8, "could 0 0 1;") + "could 9 9 999;", 3, 114);
        reads("colours 1;strip 0;" + times(12, "pole 0 1;") + "seam 0 0 0;", 3, 126);
        reads("colours 1;strip 0;" + times(12, "pole 0 1;") + "pole x", 3, 126);
    }

    /** The first byte that has one. */
    private static void firstOfSeveral() {
        reads("colours 100;colours 1;x", 2, 8);
        reads("colours 1;colours 100;x", 3, 10);
        reads("colours 1;x;colours 100", 1, 10);
        reads(TWO + "seam 0 0 0;strip 7", 4, TWO.length() + 7);
        reads(TWO + "strip 7;seam 0 0 0;", 2, TWO.length() + 6);
        reads(TWO + "seam 2 2 0;", 2, TWO.length() + 5);
        reads(TWO + "seam 0 2 0", 2, TWO.length() + 7);
        reads(TWO + "pole 0 0", 2, TWO.length() + 7);
        reads(TWO + "could 2 9 100", 2, TWO.length() + 6);
        reads(TWO + "could 1 9 100", 2, TWO.length() + 8);
        reads(TWO + "could 1 1 100", 2, TWO.length() + 10);
        reads(TWO + "could 1 x 100", 1, TWO.length() + 8);
        reads("colours 1,2,3,100,4;", 2, 14);
        reads("colours 1,2,3,4,100;", 1, 15);
    }

    private static void emptyTexts() {
        reads("", 0, NONE);
        for (int n = 1; n <= 500; n += 83) reads(times(n, " "), 0, NONE);
        reads(times(500, " "), 0, NONE);
        reads(times(499, " ") + "c", 1, 499);
        reads(times(499, " ") + ";", 1, 499);
        reads(times(490, " ") + "colours 1;", 0, NONE);
        reads(times(491, " ") + "colours 1", 1, 500);
        reads(times(493, " ") + "colours", 1, 500);
        reads(times(494, " ") + "colour", 1, 494);
        reads(times(491, " ") + "colours00", 1, 500);
        reads(times(488, " ") + "colours 0000", 2, 496);
    }

    /** fault() is of the latest flag(); what was fed behind it does not matter, nor what an older text told. */
    private static void toldAnew() {
        StripFlag x = new StripFlag();
        due("at first", x.fault(), NONE);
        tell(x, "x");
        due("not read yet", x.fault(), NONE);
        due("1", x.flag(), -11);
        due("1", x.fault(), 0);
        tell(x, "colours 100;");
        due("of the latest", x.fault(), 0);
        due("2", x.flag(), -12);
        due("2", x.fault(), 8);
        tell(x, "colours 1;colours 1;");
        due("3", x.flag(), -13);
        due("3", x.fault(), 10);
        tell(x, "colours 1;strip 0;seam 0 0 1;");
        due("4", x.flag(), -14);
        due("4", x.fault(), 25);
        due("nothing was told", x.told(0), 0);
        tell(x, "colours 1;strip 0;");
        due("0", x.flag(), 1);
        due("0", x.fault(), NONE);
        due("what had a fault told nothing", x.told(0), 1);
        tell(x, "strip 0;");
        due("a new text begins anew", x.flag(), -11);
        due("as it was", x.told(1), 1);
        due("no text any more", x.flag(), 0);
        due("no strips any more", x.told(1), 0);
    }
}
