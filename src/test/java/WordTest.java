/** Promises 6 to 8, 25 and 26: word, far, like, both, lost. */
public final class WordTest {
    private static final Checks CHECKS = new Checks();
    private static final String A_TO_P = "abcdefghijklmnop";

    public static void main(String[] args) {
        wordAsItIs();
        wordInTheOthersMouth();
        boundsOfWord();
        farOfWords();
        boundsOfFar();
        likeOfMeanings();
        likeOfSaidWords();
        bothAndLost();
        CHECKS.end();
    }

    private static void due(String call, long got, long want) {
        CHECKS.due(call, got, want);
    }

    private static void dueWord(TradeWords x, int p, int m, int q, String want) {
        due("length of " + want, x.word(p, m, q, -1), want.length());
        for (int k = 0; k < 6; k++) {
            int sound = k < want.length() ? A_TO_P.indexOf(want.charAt(k)) : TradeWords.NONE;
            due("sound " + k + " of " + want, x.word(p, m, q, k), sound);
        }
    }

    private static void wordAsItIs() {
        TradeWords x = Checks.laid("w0,0,apbock;w1,0,p;w0,7,aa;w1,3,ponmlk;s0,a;s1,b;");
        dueWord(x, 0, 0, 0, "apbock");
        dueWord(x, 1, 0, 1, "p");
        dueWord(x, 0, 7, 0, "aa");
        dueWord(x, 1, 3, 1, "ponmlk");
        dueWord(x, 0, 3, 0, "");
        dueWord(x, 1, 7, 1, "");
        dueWord(x, 1, 7, 0, "");
    }

    private static void wordInTheOthersMouth() {
        TradeWords x = Checks.laid("w0,0,abcdab;w1,0,efghe;s1,abf;rca;rdh;s0,eh;rfe;rgd;");
        // d becomes h, which people 1 can't say, so it falls out
        dueWord(x, 0, 0, 1, "abaab");
        // g becomes d, which people 0 can't say
        dueWord(x, 1, 0, 0, "eehe");
        // b becomes c, and c would become d: only once
        dueWord(Checks.laid("w0,0,b;s1,d;rbc;rcd;"), 0, 0, 1, "");
        dueWord(Checks.laid("w0,0,aba;s1,cd;rac;"), 0, 0, 1, "cc");
        // who can say it says it, whatever is told
        dueWord(Checks.laid("w0,0,aba;rac;rbc;"), 0, 0, 1, "aba");
        dueWord(Checks.laid("w0,0,pppppp;s1,o;rpo;"), 0, 0, 1, "oooooo");
        dueWord(Checks.laid("w0,0,abc;s1,d;"), 0, 0, 1, "");
    }

    private static void boundsOfWord() {
        TradeWords x = Checks.laid("w0,0,abcdef;");
        int[][] bad = {{-1, 0, 0, 0}, {2, 0, 0, 0}, {0, -1, 0, 0}, {0, 8, 0, 0}, {0, 0, -1, 0}, {0, 0, 2, 0}, {0, 0, 0, -2},
            {0, 0, 0, 6}, {0, 5, 0, 6}, {1, 1, 1, Integer.MIN_VALUE}, {Integer.MAX_VALUE, 0, 0, 0}};
        for (int[] c : bad) {
            due("BAD word", x.word(c[0], c[1], c[2], c[3]), TradeWords.BAD);
        }
    }

    private static void farOfWords() {
        String[] pairs = {"a", "a", "a", "b", "abc", "ab", "ab", "bc", "abcdef", "fedcba", "abcdef", "bcdefa", "aaaaaa", "a",
            "kniga", "bok", "abcabc", "acbacb", "a", "bcdefg", "pa", "ap"};
        int[] fars = {0, 1, 1, 2, 6, 2, 5, 5, 4, 6, 2};
        for (int k = 0; k < fars.length; k++) {
            String one = pairs[2 * k];
            String other = pairs[2 * k + 1];
            due("model far " + one + " " + other, Model.apart(one, other), fars[k]);
            TradeWords x = Checks.laid("w0,2," + one + ";w1,5," + other + ";s0,p;s1,p;");
            due("far of " + one + " and " + other, x.far(0, 2, 1, 5), fars[k]);
            due("far of " + other + " and " + one, x.far(1, 5, 0, 2), fars[k]);
            due("far of itself", x.far(1, 5, 1, 5), 0);
        }
        TradeWords x = Checks.laid("w0,0,ab;w0,1,abc;");
        due("far of one people's words", x.far(0, 0, 0, 1), 1);
    }

    private static void boundsOfFar() {
        TradeWords x = Checks.laid("w0,0,ab;w1,1,cd;");
        due("NO second", x.far(0, 0, 1, 0), TradeWords.NO);
        due("NO first", x.far(1, 0, 0, 0), TradeWords.NO);
        due("NO both", x.far(1, 5, 0, 6), TradeWords.NO);
        int[][] bad = {{-1, 0, 0, 0}, {2, 0, 1, 1}, {0, -1, 0, 0}, {0, 8, 1, 1}, {0, 0, -1, 0}, {0, 0, 2, 0}, {0, 0, 0, -1},
            {0, 0, 0, 8}, {1, 0, 0, 8}};
        for (int[] c : bad) {
            due("BAD far", x.far(c[0], c[1], c[2], c[3]), TradeWords.BAD);
        }
    }

    private static void likeOfMeanings() {
        TradeWords x = Checks.laid("w0,0,abc;w1,0,abd;w0,1,abcdef;w1,1,abcdea;w0,2,a;w1,2,b;w0,3,pon;w1,3,pon;w0,4,a;w1,5,a;"
            + "w0,6,ab;w1,6,abcdef;w0,7,abcdef;w1,7,abcabc;");
        due("1 of 3: 33 are cut", x.like(0), 67);
        due("1 of 6: 16 are cut", x.like(1), 84);
        due("1 of 1", x.like(2), 0);
        due("0 of 3", x.like(3), 100);
        due("one word alone", x.like(4), TradeWords.NO);
        due("one word alone", x.like(5), TradeWords.NO);
        due("4 of 6: 66 are cut", x.like(6), 34);
        due("3 of 6", x.like(7), 50);
        due("like(-1)", x.like(-1), TradeWords.BAD);
        due("like(8)", x.like(8), TradeWords.BAD);
    }

    private static void likeOfSaidWords() {
        // people 1 says the word of 0 as cc; its own word is not changed by what 0 can say
        TradeWords x = Checks.laid("w0,0,aba;w1,0,cc;s1,cd;s0,ab;rac;");
        due("like of the said one", x.like(0), 100);
        due("far is of words as they are", x.far(0, 0, 1, 0), 3);
        // the word of people 1 stays as it is, even where 1 can't say it
        due("own words stay", Checks.laid("w0,0,a;w1,0,b;s1,a;").like(0), 0);
        due("all falls out", Checks.laid("w0,0,a;w1,0,b;s1,c;").like(0), 0);
        due("one of two falls out", Checks.laid("w0,0,ab;w1,0,b;s1,b;").like(0), 100);
    }

    private static void bothAndLost() {
        TradeWords none = new TradeWords();
        due("both() of none told", none.both(), 0xffff);
        due("lost(0) of none told", none.lost(0), 0);
        TradeWords x = Checks.laid("s0,abcp;s1,bcdo;w0,0,ab;w0,1,bp;w0,2,caap;w1,5,dob;rab;rpa;rdp;rok;");
        due("both()", x.both(), 0b110);
        // of people 0: a becomes b, p becomes a, which 1 can't say
        due("lost(0)", x.lost(0), 1 << 15);
        // of people 1: d becomes p, o becomes k, which 0 can't say
        due("lost(1)", x.lost(1), 1 << 14);
        due("each sound of the first meaning", Checks.laid("s1,p;w0,0,abcdef;").lost(0), 0b111111);
        due("and of the last", Checks.laid("s0,p;w1,7,gap;").lost(1), 0b1000001);
        due("only of words that are", Checks.laid("s0,a;s1,b;").lost(0), 0);
        due("both() of one", Checks.laid("s0,ap;").both(), 0x8001);
        due("both() of none", Checks.laid("s0,ap;s1,bcdefghijklmno;").both(), 0);
        due("lost(-1)", x.lost(-1), TradeWords.BAD);
        due("lost(2)", x.lost(2), TradeWords.BAD);
    }
}
