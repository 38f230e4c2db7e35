import java.util.ArrayList;
import java.util.List;

/** What the Terms say of the ends: what is cut, what is empty, what is full, who stays, what is reached just in time. */
public final class EdgeTest {
    private static final Checks CHECKS = new Checks();
    private static final int MILLION = 1000000;
    private static final int NONE = TradeWords.NONE;
    private static final String TWO_WORDS = "w0,0,a;w1,0,b;";

    private EdgeTest() {
    }

    public static void main(String[] args) {
        saidInPart();
        farOfAllShortWords();
        likeByTheLongerOne();
        oneMeetingFromEachStand();
        noMeeting();
        upToTwoHundred();
        wonInOneStandAlone();
        soonJustInTime();
        useFromNoneToAll();
        useCutByTheLastOne();
        tradersAllSayTheirOwn();
        readyFromNoneToTen();
        summersOfOneOrAll();
        standsStayInBounds();
        chanceOfAllPairs();
        joinedOfAllEars();
        childrenOfAll();
        evenOnTheEdge();
        fewestOnTheEdge();
        keptIsStandsAlone();
        layAgain();
        objectsAreApart();
        CHECKS.end();
    }

    private static void due(String call, long got, long want) {
        CHECKS.due(call, got, want);
    }

    /** SAID: a WORD of which all, some or none can be said. */
    private static void saidInPart() {
        TradeWords none = Checks.laid("w0,0,abcdef;w1,0,abcdef;s1,p;s0,p;");
        due("all fall out: length", none.word(0, 0, 1, -1), 0);
        due("all fall out: the first SOUND", none.word(0, 0, 1, 0), NONE);
        due("all fall out: the last SOUND", none.word(0, 0, 1, 5), NONE);
        due("all fall out with PEOPLE 0, too", none.word(1, 0, 0, -1), 0);
        due("as it is, all stay", none.word(0, 0, 0, -1), 6);
        due("LOST", none.lost(0), 0b111111);
        due("LIKE of an empty and a full one", none.like(0), 0);
        TradeWords first = Checks.laid("w0,0,abcdef;s1,a;");
        due("the first one stays", first.word(0, 0, 1, 0), 0);
        due("and none behind it", first.word(0, 0, 1, 1), NONE);
        TradeWords last = Checks.laid("w0,0,abcdef;s1,f;");
        due("the last one comes to the front", last.word(0, 0, 1, 0), 5);
        due("and is alone", last.word(0, 0, 1, -1), 1);
        TradeWords mixed = Checks.laid("w0,0,abcabc;s1,bd;rad;rca;");
        due("so, changed and fallen out: length", mixed.word(0, 0, 1, -1), 4);
        int[] sounds = {3, 1, 3, 1, NONE, NONE};
        for (int k = 0; k < 6; k++) {
            due("so, changed and fallen out: " + k, mixed.word(0, 0, 1, k), sounds[k]);
        }
        due("only what falls out is LOST", mixed.lost(0), 0b100);
    }

    /** FAR of all WORDS of a and b up to five long, with two of six. */
    private static void farOfAllShortWords() {
        List<String> words = new ArrayList<>();
        for (int length = 1; length <= 5; length++) {
            for (int bits = 0; bits < 1 << length; bits++) {
                words.add(Integer.toBinaryString(1 << length | bits).substring(1).replace('0', 'a').replace('1', 'b'));
            }
        }
        words.add("bababa");
        words.add("aabbab");
        for (int one = 0; one < words.size(); one += 8) {
            for (int other = 0; other < words.size(); other += 8) {
                dueFars(words.subList(one, one + 8), words.subList(other, other + 8));
            }
        }
    }

    private static void dueFars(List<String> ones, List<String> others) {
        StringBuilder text = new StringBuilder();
        for (int m = 0; m < 8; m++) {
            text.append("w0,").append(m).append(',').append(ones.get(m)).append(';');
            text.append("w1,").append(m).append(',').append(others.get(m)).append(';');
        }
        TradeWords x = Checks.laid(text.toString());
        for (int m = 0; m < 8; m++) {
            for (int n = 0; n < 8; n++) {
                int want = Model.apart(ones.get(m), others.get(n));
                due("FAR of " + ones.get(m) + " and " + others.get(n), x.far(0, m, 1, n), want);
                due("FAR of " + others.get(n) + " and " + ones.get(m), x.far(1, n, 0, m), want);
            }
        }
    }

    /** "100 times FAR by the longer one's length, cut", of the WORD as it is SAID. */
    private static void likeByTheLongerOne() {
        due("the other's is longer", Checks.laid("w0,0,a;w1,0,abc;").like(0), 100 - 66);
        due("the one's is longer", Checks.laid("w0,0,abc;w1,0,a;").like(0), 100 - 66);
        due("SAID it is shorter", Checks.laid("w0,0,aabbbb;w1,0,aac;s1,ac;").like(0), 100 - 33);
        due("1 of 6", Checks.laid("w0,0,abcdef;w1,0,abcdep;").like(0), 100 - 16);
        due("5 of 6", Checks.laid("w0,0,abcdef;w1,0,pppppf;").like(0), 100 - 83);
        due("6 of 6", Checks.laid("w0,0,abcdef;w1,0,pppppp;").like(0), 0);
        due("0 of 6", Checks.laid("w0,0,pppppp;w1,0,pppppp;").like(0), 100);
        due("1 of 4", Checks.laid("w0,0,abcd;w1,0,abc;").like(0), 75);
        due("SAID it is the same", Checks.laid("w0,0,ka;w1,0,ga;s1,ag;rkg;").like(0), 100);
        // only PEOPLE 1 has to say it
        due("what PEOPLE 0 can't say does not matter", Checks.laid("w0,0,ka;w1,0,ka;s0,p;").like(0), 100);
    }

    /** One step of the document, told here once more: by 100 A B, cut each time. */
    private static long[][] step(long[][] now, int s, int k0, int k1) {
        int a = now.length - 1;
        int b = now[0].length - 1;
        long[][] then = new long[a + 1][b + 1];
        for (int x = 0; x <= a; x++) {
            for (int y = 0; y <= b; y++) {
                long many = now[x][y];
                long by = 100L * a * b;
                long up = many * (10 - s) * (a - x) * (b - y) * k0 / by;
                long down = many * (10 - s) * x * y * k0 / by;
                long right = many * s * (a - x) * (b - y) * k1 / by;
                long left = many * s * x * y * k1 / by;
                then[Math.min(a, x + 1)][y] += up;
                then[Math.max(0, x - 1)][y] += down;
                then[x][Math.min(b, y + 1)] += right;
                then[x][Math.max(0, y - 1)] += left;
                then[x][y] += many - up - down - right - left;
            }
        }
        return then;
    }

    private static long[][] from(int a, int b, int x, int y) {
        long[][] all = new long[a + 1][b + 1];
        all[x][y] = MILLION;
        return all;
    }

    /** From each STAND, the corners too, of the smallest and the largest crowds, of who never and who always takes. */
    private static void oneMeetingFromEachStand() {
        int[][] crowds = {{1, 1}, {1, 8}, {8, 1}, {8, 8}, {3, 2}};
        int[][] habits = {{0, 10, 10}, {10, 10, 10}, {5, 0, 10}, {5, 10, 0}, {3, 7, 1}, {9, 1, 10}, {5, 0, 0}};
        for (int[] crowd : crowds) {
            for (int[] habit : habits) {
                for (int x = 0; x <= crowd[0]; x++) {
                    for (int y = 0; y <= crowd[1]; y++) {
                        dueMeetings(crowd, habit, x, y);
                    }
                }
            }
        }
    }

    private static void dueMeetings(int[] crowd, int[] habit, int x, int y) {
        String text = TWO_WORDS + "n" + crowd[0] + "," + crowd[1] + ";o" + habit[0] + ";k" + habit[1] + "," + habit[2] + ";";
        TradeWords beach = Checks.laid(text);
        beach.set(0, x, y);
        long[][] one = step(from(crowd[0], crowd[1], x, y), habit[0], habit[1], habit[2]);
        long[][] two = step(one, habit[0], habit[1], habit[2]);
        for (int i = Math.max(0, x - 2); i <= Math.min(crowd[0], x + 2); i++) {
            for (int j = Math.max(0, y - 2); j <= Math.min(crowd[1], y + 2); j++) {
                due(text + " one MEETING from " + x + "," + y + " to " + i + "," + j, beach.million(0, 1, i, j), one[i][j]);
                due(text + " two from " + x + "," + y + " to " + i + "," + j, beach.million(0, 2, i, j), two[i][j]);
            }
        }
    }

    /** n 0: all are in the STAND as it is now, and in no other. */
    private static void noMeeting() {
        for (int x = 0; x <= 2; x++) {
            for (int y = 0; y <= 5; y++) {
                TradeWords beach = Checks.laid(TWO_WORDS + "n2,5;");
                beach.set(0, x, y);
                for (int i = 0; i <= 2; i++) {
                    for (int j = 0; j <= 5; j++) {
                        due("in " + i + "," + j + " of " + x + "," + y, beach.million(0, 0, i, j), i == x && j == y ? MILLION : 0);
                    }
                }
            }
        }
    }

    /** n up to 200: one of a hundred goes on each time, cut. */
    private static void upToTwoHundred() {
        TradeWords x = Checks.laid(TWO_WORDS + "n1,1;k0,1;o1;");
        long stay = MILLION;
        for (int n = 0; n <= 200; n++) {
            due("stay behind " + n, x.million(0, n, 0, 0), stay);
            due("won behind " + n, x.won(0, n, 0), MILLION - stay);
            stay -= stay / 100;
        }
        TradeWords y = Checks.laid(TWO_WORDS + "n8,8;k1,1;");
        long[][] all = from(8, 8, 0, 0);
        for (int n = 0; n <= 200; n++) {
            if (n % 50 == 0 || n == 199) {
                for (int k = 0; k <= 8; k++) {
                    due("8 of each, in " + k + ",8 less it, behind " + n, y.million(0, n, k, 8 - k), all[k][8 - k]);
                }
            }
            all = step(all, 5, 1, 1);
        }
    }

    /** "WON by WORD p: in the STAND in which all say it", and in no other. */
    private static void wonInOneStandAlone() {
        for (int x = 0; x <= 2; x++) {
            for (int y = 0; y <= 5; y++) {
                TradeWords beach = Checks.laid(TWO_WORDS + "n2,5;");
                beach.set(0, x, y);
                boolean zero = x == 0 && y == 5;
                boolean one = x == 2 && y == 0;
                due("WON by 0 in " + x + "," + y, beach.won(0, 0, 0), zero ? MILLION : 0);
                due("WON by 1 in " + x + "," + y, beach.won(0, 0, 1), one ? MILLION : 0);
                due("TONGUE of 0 in " + x + "," + y, beach.tongue(0), zero ? 1 : 0);
                due("TONGUE of 1 in " + x + "," + y, beach.tongue(1), one ? 1 : 0);
                due("SOON in " + x + "," + y, beach.soon(0, 100) == 0 ? 1 : 0, zero || one ? 1 : 0);
            }
        }
    }

    /** SOON: "the least n (to 200)": reached at 200 is soon enough, at 201 is not. */
    private static void soonJustInTime() {
        int atTheEdge = 0;
        int tooLate = 0;
        for (int a = 1; a <= 8; a++) {
            for (int s = 1; s <= 9; s++) {
                for (int k = 1; k <= 5; k++) {
                    long[][] all = from(a, a, 0, 0);
                    long[] wins = new long[202];
                    for (int n = 0; n <= 201; n++) {
                        wins[n] = (all[0][a] + all[a][0]) / 10000;
                        all = step(all, s, k, 1);
                    }
                    TradeWords x = Checks.laid(TWO_WORDS + "n" + a + "," + a + ";o" + s + ";k" + k + ",1;");
                    if (wins[200] > wins[199]) {
                        atTheEdge++;
                        due("SOON at 200", x.soon(0, (int) wins[200]), 200);
                    }
                    if (wins[199] > wins[198]) {
                        due("SOON at 199", x.soon(0, (int) wins[199]), 199);
                    }
                    if (wins[201] > wins[200]) {
                        tooLate++;
                        due("SOON too late", x.soon(0, (int) wins[201]), NONE);
                    }
                }
            }
        }
        due("there is one at 200", atTheEdge > 0 ? 1 : 0, 1);
        due("there is one at 201", tooLate > 0 ? 1 : 0, 1);
        TradeWords ten = Checks.laid(TWO_WORDS + "n1,1;k0,1;o10;");
        due("exactly 10 hundredths", ten.soon(0, 10), 1);
        due("11 hundredths", ten.soon(0, 11), 2);
        due("exactly 19", ten.soon(0, 19), 2);
        due("20", ten.soon(0, 20), 3);
        TradeWords at = Checks.laid(TWO_WORDS + "n1,1;k10,10;");
        due("100 of both together", at.soon(0, 100), 1);
        at.set(0, 1, 1);
        due("100 from where both say the other's", at.soon(0, 100), 1);
    }

    /** USE: from none to A and B, by 1000, cut. */
    private static void useFromNoneToAll() {
        for (int a = 1; a <= 8; a += 7) {
            for (int b = 1; b <= 8; b++) {
                TradeWords x = Checks.laid(TWO_WORDS + "k0,0;n" + a + "," + b + ";");
                for (int i = 0; i <= a; i++) {
                    for (int j = 0; j <= b; j++) {
                        x.set(0, i, j);
                        due("USE in " + i + "," + j + " of " + a + "," + b, x.use(0, 0), 1000 * (a - i + j));
                        due("who takes none stays", x.use(0, 200), 1000 * (a - i + j));
                    }
                }
            }
        }
        // 142857 go to x and 1, 1/7 of a million, cut: 857143 stay with one more who says WORD 0
        TradeWords cut = Checks.laid(TWO_WORDS + "n1,7;k10,0;o0;");
        cut.set(0, 0, 6);
        due("1 of 7 goes on", cut.million(0, 1, 1, 6), 142857);
        due("7 times a million less 142857, by 1000, cut", cut.use(0, 1), (7 * 1000000 - 142857) / 1000);
        due("it is cut, not rounded: 6857.143", cut.use(0, 1), 6857);
        TradeWords up = Checks.laid(TWO_WORDS + "n7,1;k0,10;o10;");
        up.set(0, 1, 1);
        due("y less 1: 1 of 7", up.million(0, 1, 1, 0), 142857);
        due("y stays 1", up.million(0, 1, 1, 1), 857143);
        due("6 or 7 say WORD 0: 6857.143", up.use(0, 1), 6857);
    }

    /** USE, where one more of a million would make one more thousand. */
    private static void useCutByTheLastOne() {
        int found = 0;
        for (int a = 1; a <= 8; a++) {
            for (int b = 1; b <= 8; b++) {
                TradeWords x = Checks.laid(TWO_WORDS + "n" + a + "," + b + ";o3;k7,2;");
                long[][] all = from(a, b, 0, 0);
                for (int n = 0; n <= 100; n++) {
                    long sum = 0;
                    for (int i = 0; i <= a; i++) {
                        for (int j = 0; j <= b; j++) {
                            sum += all[i][j] * (a - i + j);
                        }
                    }
                    found += sum % 1000 == 999 ? 1 : 0;
                    due("USE of " + a + "," + b + " behind " + n, x.use(0, n), sum / 1000);
                    all = step(all, 3, 7, 2);
                }
            }
        }
        due("there is one with 999 behind the thousands", found > 0 ? 1 : 0, 1);
    }

    private static void tradersAllSayTheirOwn() {
        for (int q = 1; q <= 100; q++) {
            TradeWords x = Checks.laid(TWO_WORDS + "n8,8;k10,10;o4;");
            x.set(0, 8, 8);
            due("WORD 0 by one of each, 40 of a hundred: " + q, x.traders(0, 1, 0, q), q <= 40 ? 1 : NONE);
            due("WORD 1 by one of each, 60 of a hundred: " + q, x.traders(0, 200, 1, q), q <= 60 ? 1 : NONE);
            due("none behind no MEETING: " + q, x.traders(0, 0, 0, q), NONE);
        }
        TradeWords asked = Checks.laid(TWO_WORDS + "n8,8;k10,10;o4;");
        due("what was asked before", asked.won(0, 1, 0), 0);
        due("does not matter to TRADERS", asked.traders(0, 1, 0, 40), 1);
        due("nor to what is asked behind it", asked.won(0, 1, 0), 0);
        due("nor to READY", asked.ready(0, 1, 0, 1), NONE);
        TradeWords alike = Checks.laid("w0,0,a;w1,0,a;k10,10;o0;");
        due("ALIKE: all stay", alike.traders(0, 200, 1, 1), NONE);
    }

    private static void readyFromNoneToTen() {
        for (int q = 1; q <= 100; q++) {
            // one of each, PEOPLE 0 alone speaks: r of ten behind one MEETING
            TradeWords x = Checks.laid(TWO_WORDS + "n1,1;k0,0;o10;");
            due("READY for WORD 0: " + q, x.ready(0, 1, 0, q), (q + 9) / 10);
            due("READY for WORD 1: " + q, x.ready(0, 200, 1, q), NONE);
            due("READY without a MEETING: " + q, x.ready(0, 0, 0, q), NONE);
            x.set(0, 0, 1);
            due("0 is enough where all say it: " + q, x.ready(0, 200, 0, q), 0);
            due("and 10 is not for the other: " + q, x.ready(0, 200, 1, q), NONE);
            TradeWords half = Checks.laid(TWO_WORDS + "n1,1;k10,10;o5;");
            due("half of them: " + q, half.ready(0, 1, 1, q), q <= 50 ? (q + 4) / 5 : NONE);
        }
    }

    private static long draw(long z, long t, long k, long m) {
        long x = 7919 * z + 6151 * t + 3571 * k + 2011 * m + 1;
        return x * x % 65521;
    }

    /** Who always hears and always takes changes at each MEETING in which WORDS differ: told by the draws 2 and 3 alone. */
    private static void summersOfOneOrAll() {
        for (int z : new int[] {0, 1, 4999, 9998, 9999}) {
            for (int n : new int[] {1, 2, 98, 99}) {
                for (int m = 0; m < 8; m += 7) {
                    TradeWords x = Checks.laid("w0," + m + ",a;w1," + m + ",b;n8,7;o10;k0,10;");
                    x.set(m, 4, 3);
                    int y = 3;
                    for (int t = 0; t < n; t++) {
                        boolean zero = draw(z, t, 2, m) % 8 < 4;
                        boolean one = draw(z, t, 3, m) % 7 < y;
                        y += zero != one ? 0 : zero ? -1 : 1;
                    }
                    due("SUMMER by " + z + " of " + n, x.summer(z, n), 0);
                    due("x stays", x.stand(m, 0), 4);
                    due("y behind it", x.stand(m, 1), y);
                }
            }
        }
        TradeWords none = Checks.laid("w0,0,a;w1,1,b;");
        due("no MEANING TOLD", none.summer(9999, 99), 0);
    }

    /** Whatever is drawn, x stays in 0 to A, y in 0 to B, and who all say one WORD go on saying it. */
    private static void standsStayInBounds() {
        for (int z = 0; z <= 9999; z += 303) {
            TradeWords x = Checks.laid(TWO_WORDS + "w0,7,a;w1,7,b;n1,2;k10,10;");
            x.set(0, 0, 2);
            x.set(7, 1, 2);
            int tongue = x.summer(z, 99);
            due("x of all who say WORD 0", x.stand(0, 0), 0);
            due("y of all who say WORD 0", x.stand(0, 1), 2);
            due("x in bounds", x.stand(7, 0) >= 0 && x.stand(7, 0) <= 1 ? 1 : 0, 1);
            due("y in bounds", x.stand(7, 1) >= 0 && x.stand(7, 1) <= 2 ? 1 : 0, 1);
            due("one or both are of THE TONGUE", tongue, Integer.bitCount(x.tongue(0) | x.tongue(1)));
        }
    }

    /** BY CHANCE: from no pair to all that can be: 8 MEANINGS with 7 others each. */
    private static void chanceOfAllPairs() {
        StringBuilder same = new StringBuilder();
        StringBuilder other = new StringBuilder();
        for (int m = 0; m < 8; m++) {
            same.append("e1,").append(m).append(",a;w0,").append(m).append(",a;");
            other.append("e1,").append(m).append(",a;w0,").append(m).append(",b;");
        }
        due("all pairs", Checks.laid(same.toString()).chance(1, 0, 1), 56);
        due("all are like", Checks.laid(same + "g99;").chance(1, 0, 0), 56);
        due("all pairs", Checks.laid(other.toString()).chance(1, 0, 1), 56);
        due("none is like", Checks.laid(other + "g1;").chance(1, 0, 0), 0);
        due("PEOPLE 1 has no WORD", Checks.laid(same.toString()).chance(1, 1, 1), 0);
        due("another EAR has none", Checks.laid(same.toString()).chance(0, 0, 1), 0);
        due("the same MEANING is no pair", Checks.laid("e0,7,a;w0,7,a;").chance(0, 0, 1), 0);
        due("nor like", Checks.laid("e0,7,a;w0,7,a;").chance(0, 0, 0), 0);
        due("one pair", Checks.laid("e0,7,a;w0,0,a;").chance(0, 0, 0), 1);
    }

    /** JOINED: of none, one, two and three EARS. */
    private static void joinedOfAllEars() {
        for (int ears = 0; ears < 8; ears++) {
            StringBuilder text = new StringBuilder();
            for (int ear = 0; ear < 3; ear++) {
                if ((ears & 1 << ear) != 0) {
                    text.append('e').append(ear).append(",7,").append("aaaaaa", 0, ear + 1).append(';');
                }
            }
            // of a, aa, aaa the middle one is nearest to both; of two the lowest
            int want = ears == 0 ? NONE : ears == 7 ? 1 : Integer.numberOfTrailingZeros(ears);
            due("JOINED of " + text, Checks.laid(text.toString()).joined(7), want);
            due("of another MEANING", Checks.laid(text.toString()).joined(0), NONE);
        }
        due("the last one is nearest", Checks.laid("e0,0,a;e1,0,bbb;e2,0,bb;").joined(0), 2);
        due("as far as can be", Checks.laid("e0,0,aaaaaa;e1,0,bbbbbb;e2,0,cccccc;").joined(0), 0);
        due("a people's WORD is no EAR's", Checks.laid("w0,0,aaa;w1,0,aaa;e0,0,b;e1,0,aaa;").joined(0), 0);
    }

    /** CHILDREN: of all s, of each BENT, generation by generation, cut. */
    private static void childrenOfAll() {
        for (int s = 0; s <= 1000; s++) {
            TradeWords x = new TradeWords();
            for (int k = 1; k <= 3; k++) {
                long say = s;
                for (int g = 0; g <= 20; g++) {
                    due("children(" + s + ", " + k + ", " + g + ")", x.children(s, k, g), say);
                    long yes = k == 1 ? say : k == 2 ? say * say : say * say * say;
                    long not = 1000 - say;
                    not = k == 1 ? not : k == 2 ? not * not : not * not * not;
                    say = yes * 1000 / (yes + not);
                }
            }
        }
    }

    /** EVEN: "950 or more, or 50 or fewer". */
    private static void evenOnTheEdge() {
        for (int s = 0; s <= 1000; s++) {
            TradeWords x = new TradeWords();
            for (int k = 1; k <= 3; k++) {
                int want = NONE;
                for (int g = 20; g >= 0; g--) {
                    int say = x.children(s, k, g);
                    want = say >= 950 || say <= 50 ? g : want;
                }
                due("even(" + s + ", " + k + ")", x.even(s, k), want);
            }
        }
        TradeWords x = new TradeWords();
        int[] now = {0, 1, 50, 950, 999, 1000};
        for (int s : now) {
            due("EVEN now: " + s, x.even(s, 3), 0);
        }
        due("51 is not", x.even(51, 3), 1);
        due("949 is not", x.even(949, 3), 1);
        due("51 of BENT 1 never is", x.even(51, 1), NONE);
        due("949 of BENT 1 never is", x.even(949, 1), NONE);
        due("501 of BENT 2 is cut to 501 again", x.even(501, 2), NONE);
        due("502 of BENT 2 takes longest", x.even(502, 2), 10);
    }

    private static void fewestOnTheEdge() {
        due("no NEED: the empty set", Checks.laid("j0,1,2;").fewest(0), 0);
        due("no NEED: none", Checks.laid("j0,1,2;").fewest(1), 0);
        due("all NEEDS: all", Checks.laid("u01234567;").fewest(0), 255);
        due("all NEEDS: 8", Checks.laid("u01234567;").fewest(1), 8);
        due("of the fewest, though the bits are more", Checks.laid("u7;j7,0,1;").fewest(0), 128);
        due("one of both in the set is not enough", Checks.laid("u017;j7,0,6;").fewest(1), 3);
        due("with 6 or with 7: the least bits", Checks.laid("u017;j7,0,6;").fewest(0), 0b1000011);
        due("of several the least bits", Checks.laid("u67;j6,0,5;j7,0,5;j6,1,2;j7,1,2;").fewest(0), 0b110);
        due("all by two", Checks.laid("u01234567;j2,0,1;j3,0,1;j4,0,1;j5,0,1;j6,0,1;j7,0,1;").fewest(0), 0b11);
        due("joined of joined", Checks.laid("u0127;j2,0,1;j7,2,1;").fewest(0), 0b111);
        due("one NEED in two", Checks.laid("u0;u0;u0;").fewest(1), 1);
    }

    /** KEPT are STANDS, of all MEANINGS; nothing else comes back with them. */
    private static void keptIsStandsAlone() {
        TradeWords x = Checks.laid(TWO_WORDS + "w0,7,a;w1,7,b;n8,8;");
        x.set(0, 8, 0);
        x.set(7, 0, 8);
        x.keep();
        x.wipe();
        x.write(3, Checks.value("o5;"));
        x.set(0, 0, 0);
        x.set(7, 4, 4);
        due("back()", x.back(), 0);
        due("STAND of 0", 10 * x.stand(0, 0) + x.stand(0, 1), 80);
        due("STAND of 7", 10 * x.stand(7, 0) + x.stand(7, 1), 8);
        due("THE TEXT stays as it is", x.count(1), 3);
        due("THE TONGUE", x.tongue(0) + x.tongue(1), 0b10000001);
        for (int k = 1; k <= 5; k++) {
            due("one", x.keep(), 1);
            due("two", x.keep(), 2);
            due("no third", x.keep(), TradeWords.FULL);
            due("two are KEPT", x.count(4), 2);
            due("one is left", x.back(), 1);
            due("one is KEPT", x.count(4), 1);
            due("none is left", x.back(), 0);
            due("none is KEPT", x.count(4), 0);
            due("no more", x.back(), TradeWords.NO);
        }
        x.keep();
        x.lay();
        due("lay() keeps nothing", x.back(), TradeWords.NO);
        due("keep() of an empty beach", x.keep(), 1);
        due("back() of it", x.back(), 0);
    }

    /** Neither write, wipe nor fault() changes what is LAID; lay() of the same text starts anew. */
    private static void layAgain() {
        String other = "w0,0,pp;w1,0,op;w0,1,a;w1,1,b;n3,3;u3;";
        TradeWords x = Checks.laid(TWO_WORDS + "n2,2;");
        x.set(0, 1, 2);
        x.wipe();
        Checks.writeEights(x, other);
        due("fault() of another text", x.fault(), NONE);
        due("fault() again", x.fault(), NONE);
        due("TOLD as before", x.count(0), 1);
        due("A as before", x.count(5), 2);
        due("x as before", x.stand(0, 0), 1);
        due("WORD as before", x.word(0, 0, 0, -1), 1);
        due("NEEDS as before", x.count(2), 0);
        due("lay()", x.lay(), 2);
        due("x of all who say their own", x.stand(0, 0), 0);
        due("y of all who say their own", x.stand(0, 1), 0);
        due("WORD now", x.word(0, 0, 0, -1), 2);
        due("lay() again", x.lay(), 2);
        due("NEEDS are not told twice", x.count(2), 1);
        x.set(1, 3, 3);
        x.write(1, 'x');
        due("lay() of a FAULT", x.lay(), TradeWords.NO);
        due("the STAND stays", x.stand(1, 1), 3);
        due("fault()", x.fault(), other.length());
        due("TOLD stays", x.count(0), 2);
    }

    private static void objectsAreApart() {
        TradeWords one = Checks.laid(TWO_WORDS + "n2,2;u0;");
        TradeWords other = new TradeWords();
        one.set(0, 2, 2);
        one.keep();
        due("a new object is as new", State.of(other).equals(State.of(new TradeWords())) ? 1 : 0, 1);
        due("the first one is as it was", 10 * one.stand(0, 0) + one.stand(0, 1), 22);
        due("its TEXT too", one.count(1), 22);
        due("what it has KEPT too", one.count(4), 1);
    }
}
