/** Promises 22 and 23: children, even. */
public final class ChildrenTest {
    private static final Checks CHECKS = new Checks();

    public static void main(String[] args) {
        generations();
        boundsOfChildren();
        evenSpeech();
        boundsOfEven();
        CHECKS.end();
    }

    private static void due(String call, long got, long want) {
        CHECKS.due(call, got, want);
    }

    private static void generations() {
        TradeWords x = new TradeWords();
        for (int s : new int[] {0, 1, 499, 500, 501, 999, 1000}) {
            due("BENT 1 changes nothing", x.children(s, 1, 20), s);
            due("no generation yet", x.children(s, 3, 0), s);
        }
        // 160000 by (160000 and 360000): 307; 94249 by (94249 and 480249): 164; 26896 by (26896 and 698896): 37
        due("children(400, 2, 1)", x.children(400, 2, 1), 307);
        due("children(400, 2, 2)", x.children(400, 2, 2), 164);
        due("children(400, 2, 3)", x.children(400, 2, 3), 37);
        // 64 by (64 and 216): 228
        due("children(400, 3, 1)", x.children(400, 3, 1), 228);
        // 216 by (216 and 64): 771
        due("children(600, 3, 1)", x.children(600, 3, 1), 771);
        due("none stays none", x.children(0, 3, 20), 0);
        due("all stays all", x.children(1000, 3, 20), 1000);
        due("half stays half", x.children(500, 3, 20), 500);
        due("a few die out", x.children(1, 2, 1), 0);
        due("most do not reach all: cut", x.children(999, 2, 1), 999);
        due("children(501, 2, 20)", x.children(501, 2, 20), new Model().children(501, 2, 20));
    }

    private static void boundsOfChildren() {
        TradeWords x = new TradeWords();
        int[][] bad = {{-1, 1, 0}, {1001, 1, 0}, {0, 0, 0}, {0, 4, 0}, {0, -1, 0}, {0, 1, -1}, {0, 1, 21},
            {Integer.MIN_VALUE, 3, 20}, {500, Integer.MAX_VALUE, 1}, {500, 1, Integer.MAX_VALUE}};
        for (int[] c : bad) {
            due("BAD children", x.children(c[0], c[1], c[2]), TradeWords.BAD);
        }
    }

    private static void evenSpeech() {
        TradeWords x = new TradeWords();
        int[] alreadyEven = {0, 50, 950, 1000};
        for (int s : alreadyEven) {
            due("even already, " + s, x.even(s, 2), 0);
        }
        due("51 is not yet", x.even(51, 1), TradeWords.NONE);
        due("949 is not yet", x.even(949, 1), TradeWords.NONE);
        due("51 is next", x.even(51, 2), 1);
        due("949 is next", x.even(949, 2), 1);
        due("half never is", x.even(500, 3), TradeWords.NONE);
        due("even(400, 2)", x.even(400, 2), 3);
        due("even(600, 3)", x.even(600, 3), 2);
        for (int s = 0; s <= 1000; s++) {
            TradeWords fresh = new TradeWords();
            for (int k = 1; k <= 3; k++) {
                due("even(" + s + ", " + k + ")", fresh.even(s, k), new Model().even(s, k));
            }
        }
    }

    private static void boundsOfEven() {
        TradeWords x = new TradeWords();
        int[][] bad = {{-1, 1}, {1001, 1}, {0, 0}, {0, 4}, {500, -1}};
        for (int[] c : bad) {
            due("BAD even", x.even(c[0], c[1]), TradeWords.BAD);
        }
    }
}
