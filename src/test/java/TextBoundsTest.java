import java.util.ArrayList;
import java.util.List;

/** The bounds that "What it is" and "Terms" name for THE TEXT and its ITEMS, from the last inside to the first outside. */
public final class TextBoundsTest {
    private static final Checks CHECKS = new Checks();
    private static final int NONE = TradeWords.NONE;
    private static final String A_TO_P = "abcdefghijklmnop";
    private static final String[] GOOD = {"w0,0,a;", "w1,7,abcdef;", "w01,07,p;", "s0,a;", "s1,abcdefghijklmnop;", "rab;", "n1,1;",
        "n8,08;", "k0,0;", "k10,10;", "o0;", "o10;", "g1;", "g99;", "j0,1,2;", "j7,06,5;", "u0;", "u7;", "u01234567;", "e0,0,a;",
        "e2,7,ponmlk;"};

    private TextBoundsTest() {
    }

    public static void main(String[] args) {
        longestText();
        signBehindTheLast();
        letters();
        numbers();
        wordLengths();
        soundsOfWords();
        soundsRising();
        exchangesUnlike();
        joinedUnlike();
        needsRising();
        atMost();
        placeOfTheFirstFault();
        oneByteFromGood();
        CHECKS.end();
    }

    private static void due(String call, long got, long want) {
        CHECKS.due(call, got, want);
    }

    /** That a text is well told or not, alone and behind another ITEM, and that lay() sees it as fault() does. */
    private static void dueGood(String text, boolean good) {
        due("fault() of " + text, Checks.faultOf(text), good ? NONE : 0);
        due("fault() of g50;" + text, Checks.faultOf("g50;" + text), good ? NONE : 4);
        TradeWords x = new TradeWords();
        Checks.writeEights(x, text);
        due("lay() of " + text, x.lay() == TradeWords.NO ? 0 : 1, good ? 1 : 0);
    }

    /** "bytes (500 at most)", for each n of write. */
    private static void longestText() {
        for (int n = 1; n <= 8; n++) {
            for (int before = 500 - n - 1; before <= 500; before++) {
                TradeWords x = new TradeWords();
                Checks.writeEights(x, "o5;".repeat(167).substring(0, before));
                due(n + " bytes behind " + before, x.write(n, 0), before + n <= 500 ? before + n : TradeWords.FULL);
                due("count(1)", x.count(1), before + n <= 500 ? before + n : before);
                due("wipe()", x.wipe(), before + n <= 500 ? before + n : before);
                due("room again", x.write(n, 0), n);
            }
        }
        TradeWords x = new TradeWords();
        String full = "o5;".repeat(160) + "w0,0,ab;w1,0,ab;n7,8";
        due("500 bytes", Checks.writeEights(x, full), 500);
        due("the last sign has no room", x.write(1, ';'), TradeWords.FULL);
        due("so the last ITEM is the FAULT", x.fault(), 496);
        due("and nothing is LAID", x.lay(), TradeWords.NO);
        x.wipe();
        due("one ITEM less", Checks.writeEights(x, full.substring(3)), 497);
        due("the last sign has room", x.write(1, ';'), 498);
        due("lay()", x.lay(), 1);
        due("A", x.count(5), 7);
        TradeWords y = new TradeWords();
        due("500 bytes, the last ITEM to the last byte", Checks.writeEights(y, "o5;".repeat(165) + "n7,8;"), 500);
        due("lay() of 500 bytes", y.lay(), 0);
        due("its last ITEM holds", y.count(6), 8);
        due("all of it is wiped", y.wipe(), 500);
        due("THE TEXT is empty", y.count(1) + y.wipe(), 0);
    }

    /** "parted by , and ; (behind the last one, too)". */
    private static void signBehindTheLast() {
        for (String item : GOOD) {
            String open = item.substring(0, item.length() - 1);
            dueGood(item, true);
            dueGood(open, false);
            dueGood(open + ",", false);
            due(open + " behind another", Checks.faultOf(item + open), item.length());
            due("two without a sign between", Checks.faultOf(open + item), 0);
            due("two signs", Checks.faultOf(item + ";"), item.length());
            due("a sign ahead", Checks.faultOf(";" + item), 0);
            due("a space between", Checks.faultOf(item + " " + item), item.length());
            due("a new line behind", Checks.faultOf(item + "\n"), item.length());
            for (int k = 0; k < item.length() - 1; k++) {
                if (item.charAt(k) == ',') {
                    dueGood(item.substring(0, k) + ";" + item.substring(k + 1), false);
                    dueGood(item.substring(0, k) + "," + item.substring(k), false);
                }
            }
        }
        due("the empty text", Checks.faultOf(""), NONE);
    }

    /** "each a letter": all bytes ahead of what is told of each kind. */
    private static void letters() {
        String[] told = {"0,0,a;", "0,a;", "ab;", "1,1;", "5;", "0,1,2;", ";", "5,5,5;"};
        String[] whose = {"we", "s", "r", "nk", "ogu", "j", "", ""};
        for (int k = 0; k < told.length; k++) {
            for (char letter = 0; letter < 256; letter++) {
                dueGood(letter + told[k], whose[k].indexOf(letter) >= 0);
            }
        }
    }

    /** "A number has one or two figures", and the bounds of each; # is the number. */
    private static void numbers() {
        dueNumber("w#,0,a;", 0, 1, "");
        dueNumber("w1,#,abc;", 0, 7, "");
        dueNumber("s#,abc;", 0, 1, "");
        dueNumber("n#,1;", 1, 8, "");
        dueNumber("n8,#;", 1, 8, "");
        dueNumber("k#,0;", 0, 10, "");
        dueNumber("k10,#;", 0, 10, "");
        dueNumber("o#;", 0, 10, "");
        dueNumber("g#;", 1, 99, "");
        dueNumber("j#,1,2;", 0, 7, "12");
        dueNumber("j6,#,7;", 0, 7, "67");
        dueNumber("j3,0,#;", 0, 7, "30");
        dueNumber("e#,7,p;", 0, 2, "");
        dueNumber("e2,#,pp;", 0, 7, "");
    }

    private static void dueNumber(String item, int least, int most, String taken) {
        for (int value = 0; value <= 99; value++) {
            boolean good = value >= least && value <= most && (value > 9 || taken.indexOf('0' + value) < 0);
            dueGood(item.replace("#", String.valueOf(value)), good);
            dueGood(item.replace("#", String.format("%02d", value)), good);
            dueGood(item.replace("#", String.format("%03d", value)), false);
        }
        for (String none : new String[] {"", "-1", "+1", " 1", "1 ", "a", "1a", "/", ":", "100", "101", "256", "257", "999", "0000",
            "4294967297", "1.0", "\u00b9"}) {
            dueGood(item.replace("#", none), false);
        }
    }

    /** "a WORD 1 to 6 SOUNDS". */
    private static void wordLengths() {
        for (int length = 0; length <= 16; length++) {
            String word = "ponmlkjihgfedcba".substring(0, length);
            dueGood("w0,0," + word + ";", length >= 1 && length <= 6);
            dueGood("e0,0," + word + ";", length >= 1 && length <= 6);
        }
        for (int length = 1; length <= 6; length++) {
            TradeWords x = Checks.laid("w1,7," + "p".repeat(length) + ";");
            due("its length", x.word(1, 7, 1, -1), length);
            due("its last SOUND", x.word(1, 7, 1, length - 1), 15);
            due("none behind it", length < 6 ? x.word(1, 7, 1, length) : NONE, NONE);
        }
    }

    /** "small letters a to p", at each place of a WORD. */
    private static void soundsOfWords() {
        for (char sound = 0; sound < 256; sound++) {
            boolean good = sound >= 'a' && sound <= 'p';
            if (sound == ';') {
                continue;
            }
            for (int k = 0; k < 6; k++) {
                String word = "abcdef".substring(0, k) + sound + "abcdef".substring(k + 1);
                dueGood("w0,0," + word + ";", good);
                dueGood("e2,7," + word + ";", good);
                if (good) {
                    due("SOUND " + k + " of " + word, Checks.laid("w0,0," + word + ";").word(0, 0, 0, k), sound - 'a');
                }
            }
            dueGood("w1,3," + sound + ";", good);
            dueGood("e1,3," + sound + ";", good);
        }
    }

    /** "1 to 16 letters a to p, rising". */
    private static void soundsRising() {
        dueGood("s0,;", false);
        for (int many = 1; many <= 16; many++) {
            String sounds = A_TO_P.substring(0, many);
            dueGood("s0," + sounds + ";", true);
            dueGood("s1," + A_TO_P.substring(16 - many) + ";", true);
            dueGood("s0," + sounds + sounds.charAt(many - 1) + ";", false);
            dueGood("s0," + sounds + "a;", false);
            dueGood("s0," + sounds + "q;", false);
            dueGood("s0,`" + sounds + ";", false);
            due("both() of " + sounds, Checks.laid("s0," + sounds + ";").both(), (1 << many) - 1);
            due("both() of the same of PEOPLE 1", Checks.laid("s1," + sounds + ";").both(), (1 << many) - 1);
        }
        for (char one = '`'; one <= 'q'; one++) {
            dueGood("s1," + one + ";", one >= 'a' && one <= 'p');
            for (char other = '`'; other <= 'q'; other++) {
                dueGood("s0," + one + other + ";", one >= 'a' && one < other && other <= 'p');
            }
        }
    }

    /** "letters, unlike": all pairs, and one letter less or more. */
    private static void exchangesUnlike() {
        for (char one = '`'; one <= 'q'; one++) {
            dueGood("r" + one + ";", false);
            for (char other = '`'; other <= 'q'; other++) {
                boolean good = one >= 'a' && one <= 'p' && other >= 'a' && other <= 'p' && one != other;
                dueGood("r" + one + other + ";", good);
                dueGood("r" + one + other + "c;", false);
                dueGood("r" + one + "," + other + ";", false);
                if (good) {
                    TradeWords x = Checks.laid("w0,0," + one + ";s1," + other + ";r" + one + other + ";");
                    due("what becomes of " + one, x.word(0, 0, 1, 0), other - 'a');
                    due("it is not LOST", x.lost(0), 0);
                }
            }
        }
        dueGood("r;", false);
    }

    /** "0 to 7, all unlike". */
    private static void joinedUnlike() {
        for (int all = 0; all < 1000; all++) {
            int m = all / 100, a = all / 10 % 10, b = all % 10;
            boolean good = m <= 7 && a <= 7 && b <= 7 && m != a && m != b && a != b;
            dueGood("j" + m + "," + a + "," + b + ";", good);
            if (good) {
                TradeWords x = Checks.laid("u" + rising(1 << m | 1 << a | 1 << b) + ";j" + m + "," + a + "," + b + ";");
                due("said by both joined", x.fewest(0), 1 << a | 1 << b);
                due("how many", x.fewest(1), 2);
            }
        }
        dueGood("j0,01,1;", false);
        dueGood("j07,7,1;", false);
        dueGood("j2,1,02;", false);
        dueGood("j0,1;", false);
        dueGood("j0,1,2,3;", false);
    }

    /** "at least one; their numbers, rising, one behind the other". */
    private static void needsRising() {
        dueGood("u;", false);
        for (int set = 1; set < 256; set++) {
            dueGood("u" + rising(set) + ";", true);
            TradeWords x = Checks.laid("u" + rising(set) + ";");
            due("fewest(0) of u" + rising(set), x.fewest(0), set);
            due("fewest(1) of u" + rising(set), x.fewest(1), Integer.bitCount(set));
        }
        for (int figures = 0; figures <= 99; figures++) {
            String two = String.format("%02d", figures);
            dueGood("u" + two + ";", two.charAt(0) < two.charAt(1) && two.charAt(1) <= '7');
        }
        for (char figure = 0; figure < 256; figure++) {
            dueGood("u" + figure + ";", figure >= '0' && figure <= '7');
        }
        dueGood("u012345677;", false);
        dueGood("u001234567;", false);
        dueGood("u012345678;", false);
        dueGood("u0,1;", false);
    }

    private static String rising(int set) {
        StringBuilder figures = new StringBuilder();
        for (int m = 0; m < 8; m++) {
            if ((set & 1 << m) != 0) {
                figures.append(m);
            }
        }
        return figures.toString();
    }

    /** "8 at most", "6 at most": the last one that may be told holds, one more is the FAULT. */
    private static void atMost() {
        for (int many = 0; many <= 10; many++) {
            String joined = "j0,1,2;".repeat(many);
            due(many + " joined", Checks.faultOf(joined), many <= 8 ? NONE : 56);
            due(many + " joined among others", Checks.faultOf("j3,4,5;o5;".repeat(many)), many <= 8 ? NONE : 80);
            due("lay() of them", Checks.laid(joined).count(3), many <= 8 ? many : 0);
            String needs = "u7;".repeat(many);
            due(many + " NEEDS", Checks.faultOf(needs), many <= 6 ? NONE : 18);
            due(many + " NEEDS among others", Checks.faultOf("o5;u01;".repeat(many)), many <= 6 ? NONE : 45);
            due("lay() of them", Checks.laid(needs).count(2), many <= 6 ? many : 0);
        }
        TradeWords x = Checks.laid("j0,1,2;".repeat(7) + "j5,6,7;u567;");
        due("the eighth joined one holds", x.fewest(0), 0b11000000);
        TradeWords y = Checks.laid("u0;u1;u2;u3;u4;u5;");
        due("the sixth NEED holds", y.fewest(0), 0b111111);
        TradeWords both = new TradeWords();
        Checks.writeEights(both, "j0,1,2;".repeat(8) + "u0;".repeat(6));
        due("8 and 6 together", both.fault(), NONE);
        due("lay() of 8 and 6", both.lay(), 0);
        due("lay() of them again", both.lay(), 0);
        due("count(2)", both.count(2), 6);
        due("count(3)", both.count(3), 8);
        both.write(3, Checks.value("u0;"));
        due("one NEED more", both.fault(), 74);
        due("it is not LAID", both.lay(), TradeWords.NO);
        due("as many as before", both.count(2), 6);
        due("the others have no such bound", Checks.faultOf("o5;".repeat(100) + "n4,4;".repeat(20) + "rab;".repeat(25)), NONE);
        due("nor these", Checks.faultOf("w0,0,a;".repeat(30) + "e0,0,a;".repeat(30) + "g5;".repeat(26)), NONE);
        due("nor these", Checks.faultOf("s0,a;".repeat(50) + "k4,4;".repeat(50)), NONE);
    }

    /** "FAULT: the place of the first byte of the first ITEM that is not so". */
    private static void placeOfTheFirstFault() {
        for (int ahead = 0; ahead <= 165; ahead++) {
            String good = "g7;".repeat(ahead);
            due("behind " + ahead, Checks.faultOf(good + "z;"), 3 * ahead);
            due("one byte behind " + ahead, Checks.faultOf(good + "o"), 3 * ahead);
            due("the first of two behind " + ahead, Checks.faultOf(good + "o99;z"), 3 * ahead);
        }
        due("its first byte, not the wrong one", Checks.faultOf("o5;w0,0,abcdefg;"), 3);
        due("its first byte, not the end", Checks.faultOf("o5;j0,1,1;x"), 3);
        due("the last of 500 bytes", Checks.faultOf("o5;".repeat(165) + "n4,4x"), 495);
        due("a single byte at the end", Checks.faultOf("rab;".repeat(124) + "o5;n"), 499);
    }

    /** Every text that is one byte from a good one, as the second writing of the document reads it. */
    private static void oneByteFromGood() {
        for (String item : GOOD) {
            for (int k = 0; k <= item.length(); k++) {
                String before = item.substring(0, k);
                String behind = item.substring(k);
                for (char sign : signs()) {
                    dueAsModel(before + sign + behind);
                    if (k < item.length()) {
                        dueAsModel(before + sign + behind.substring(1));
                    }
                }
                if (k < item.length()) {
                    dueAsModel(before + behind.substring(1));
                }
            }
        }
    }

    private static List<Character> signs() {
        List<Character> all = new ArrayList<>();
        for (char sign : ("wsrnkogjue,;0123456789abcdefghijklmnopq`/:.-+ \n\u0000A\u007f\u0080\u00bb\u00ff").toCharArray()) {
            all.add(sign);
        }
        return all;
    }

    private static void dueAsModel(String text) {
        String all = text + "w0,0,b;w1,0,c;n7,6;";
        TradeWords x = new TradeWords();
        Model model = new Model();
        Checks.writeEights(x, all);
        for (int k = 0; k < all.length(); k++) {
            model.write(1, all.charAt(k));
        }
        due("fault() of " + all, x.fault(), model.fault());
        due("lay() of " + all, x.lay(), model.lay());
        due("count(5) of " + all, x.count(5), model.count(5));
        due("both() of " + all, x.both(), model.both());
        due("fewest(0) of " + all, x.fewest(0), model.fewest(0));
    }
}
