/** Promises 17 and 18: summer, tongue. */
public final class SummerTest {
    private static final Checks CHECKS = new Checks();
    private static final String TWO_WORDS = "w0,0,a;w1,0,b;";

    public static void main(String[] args) {
        firstMeeting();
        otherSays();
        drawsOfOtherNumbers();
        alikeMeetsInVain();
        tongues();
        bounds();
        CHECKS.end();
    }

    private static void due(String call, long got, long want) {
        CHECKS.due(call, got, want);
    }

    private static void dueStand(String call, TradeWords x, int a, int b) {
        due(call + ": x", x.stand(0, 0), a);
        due(call + ": y", x.stand(0, 1), b);
    }

    /** z 0, t 0, M 0: the draws 1 to 4 are 48110, 47111, 62525, 28831. */
    private static void firstMeeting() {
        TradeWords x = Checks.laid(TWO_WORDS);
        due("summer(0, 1)", x.summer(0, 1), 0);
        dueStand("people 0 speaks (0 below 5), people 1 takes (1 below 5)", x, 0, 1);
        x = Checks.laid(TWO_WORDS + "o1;k0,2;");
        x.summer(0, 1);
        dueStand("0 is below 1, 1 is below 2", x, 0, 1);
        x = Checks.laid(TWO_WORDS + "o1;k10,1;");
        x.summer(0, 1);
        dueStand("1 is not below 1", x, 0, 0);
        x = Checks.laid(TWO_WORDS + "o0;k2,0;");
        x.summer(0, 1);
        dueStand("people 1 speaks, people 0 takes", x, 1, 0);
        x = Checks.laid(TWO_WORDS + "o0;k1,10;");
        x.summer(0, 1);
        dueStand("people 0 does not take", x, 0, 0);
    }

    /** Of 4 and 4: 47111 modulo 4 is 3, 62525 modulo 4 is 1. */
    private static void otherSays() {
        int[][] froms = {{3, 1}, {3, 2}, {4, 1}, {4, 2}};
        int[][] zeroSpeaks = {{3, 2}, {3, 2}, {4, 1}, {4, 1}};
        int[][] oneSpeaks = {{4, 1}, {3, 2}, {4, 1}, {3, 2}};
        for (int k = 0; k < froms.length; k++) {
            TradeWords x = Checks.laid(TWO_WORDS);
            x.set(0, froms[k][0], froms[k][1]);
            x.summer(0, 1);
            dueStand("0 speaks, case " + k, x, zeroSpeaks[k][0], zeroSpeaks[k][1]);
            TradeWords y = Checks.laid(TWO_WORDS + "o0;");
            y.set(0, froms[k][0], froms[k][1]);
            y.summer(0, 1);
            dueStand("1 speaks, case " + k, y, oneSpeaks[k][0], oneSpeaks[k][1]);
        }
        // of 7 and 3: 47111 modulo 7 is 1, 62525 modulo 3 is 2
        TradeWords z = Checks.laid(TWO_WORDS + "n7,3;");
        z.set(0, 2, 3);
        z.summer(0, 1);
        dueStand("both say the other's", z, 2, 2);
        z.set(0, 2, 2);
        z.summer(0, 1);
        dueStand("both say word 1", z, 2, 2);
        z.set(0, 1, 2);
        z.summer(0, 1);
        dueStand("both say their own", z, 1, 3);
    }

    private static long draw(long z, long t, long k, long m) {
        long x = 7919 * z + 6151 * t + 3571 * k + 2011 * m + 1;
        return x * x % 65521;
    }

    /** From 0, 0 of one trader each the first one who takes wins; all meanings by their own draws. */
    private static void drawsOfOtherNumbers() {
        StringBuilder text = new StringBuilder("n1,1;k3,6;o4;");
        for (int m = 0; m < 8; m++) {
            text.append("w0,").append(m).append(",a;w1,").append(m).append(",b;");
        }
        for (int z : new int[] {1, 2, 5000, 9999}) {
            for (int n : new int[] {1, 2, 3, 99}) {
                TradeWords x = Checks.laid(text.toString());
                int won = x.summer(z, n);
                int wants = 0;
                for (int m = 0; m < 8; m++) {
                    int want = 0;
                    for (int t = 0; t < n && want == 0; t++) {
                        boolean zeroSpeaks = draw(z, t, 1, m) % 10 < 4;
                        if (draw(z, t, 4, m) % 10 < (zeroSpeaks ? 6 : 3)) {
                            want = zeroSpeaks ? 1 : 2;
                        }
                    }
                    wants += want == 0 ? 0 : 1;
                    due("x of " + m + " by " + z, x.stand(m, 0), want == 2 ? 1 : 0);
                    due("y of " + m + " by " + z, x.stand(m, 1), want == 1 ? 1 : 0);
                }
                due("how many are of the tongue by " + z, won, wants);
            }
        }
    }

    private static void alikeMeetsInVain() {
        TradeWords x = Checks.laid("w0,0,a;w1,0,a;w0,1,b;k10,10;");
        due("ALIKE is of the tongue", x.summer(0, 99), 1);
        dueStand("all stay", x, 0, 0);
        due("not told", x.stand(1, 0), TradeWords.NO);
        due("an empty beach", new TradeWords().summer(9999, 99), 0);
    }

    private static void tongues() {
        TradeWords x = Checks.laid("n3,2;w0,1,a;w1,1,b;w0,2,a;w1,2,b;w0,4,aa;w1,4,aa;w0,5,a;w0,7,a;w1,7,b;k0,0;");
        due("tongue(0)", x.tongue(0), 1 << 4);
        due("tongue(1)", x.tongue(1), 1 << 4);
        x.set(1, 0, 2);
        x.set(2, 3, 0);
        x.set(7, 3, 2);
        due("tongue(0)", x.tongue(0), 1 << 4 | 1 << 1);
        due("tongue(1)", x.tongue(1), 1 << 4 | 1 << 2);
        due("of either", x.summer(3, 3), 3);
        x.set(1, 0, 1);
        x.set(2, 2, 0);
        due("all but one", x.tongue(0) + x.tongue(1), 2 << 4);
        due("tongue(-1)", x.tongue(-1), TradeWords.BAD);
        due("tongue(2)", x.tongue(2), TradeWords.BAD);
    }

    private static void bounds() {
        TradeWords x = Checks.laid(TWO_WORDS);
        int[][] bad = {{-1, 1}, {10000, 1}, {0, 0}, {0, 100}, {0, -1}, {Integer.MAX_VALUE, 1}};
        for (int[] c : bad) {
            due("BAD summer", x.summer(c[0], c[1]), TradeWords.BAD);
        }
        dueStand("nothing changed", x, 0, 0);
        // a summer goes on from the STANDS as they are
        x.summer(0, 1);
        x.summer(0, 1);
        dueStand("two summers of one meeting each", x, 0, 2);
    }
}
