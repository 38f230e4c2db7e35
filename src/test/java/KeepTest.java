/** Promises 27 to 29: keep, back, count. */
public final class KeepTest {
    private static final Checks CHECKS = new Checks();

    public static void main(String[] args) {
        keptTwice();
        keptAsTheyWere();
        counts();
        CHECKS.end();
    }

    private static void due(String call, long got, long want) {
        CHECKS.due(call, got, want);
    }

    private static void dueStands(String when, TradeWords x, int zero, int seven) {
        due(when + ": MEANING 0", 10 * x.stand(0, 0) + x.stand(0, 1), zero);
        due(when + ": MEANING 7", 10 * x.stand(7, 0) + x.stand(7, 1), seven);
    }

    private static void keptTwice() {
        TradeWords x = Checks.laid("w0,0,a;w1,0,b;w0,7,a;w1,7,b;");
        due("back() of none", x.back(), TradeWords.NO);
        x.set(0, 1, 2);
        x.set(7, 3, 4);
        due("keep()", x.keep(), 1);
        dueStands("keep() changes nothing", x, 12, 34);
        x.set(0, 2, 2);
        due("keep()", x.keep(), 2);
        x.set(7, 0, 0);
        due("keep() of a third", x.keep(), TradeWords.FULL);
        due("count(4)", x.count(4), 2);
        dueStands("FULL changes nothing", x, 22, 0);
        due("back()", x.back(), 1);
        dueStands("as kept last", x, 22, 34);
        x.set(0, 4, 4);
        due("back()", x.back(), 0);
        dueStands("as kept first", x, 12, 34);
        due("back() of none", x.back(), TradeWords.NO);
        dueStands("NO changes nothing", x, 12, 34);
        due("keep() again", x.keep(), 1);
    }

    private static void keptAsTheyWere() {
        TradeWords x = Checks.laid("w0,0,a;w1,0,b;w0,7,a;w1,7,b;k10,10;");
        x.keep();
        x.summer(17, 99);
        int zero = 10 * x.stand(0, 0) + x.stand(0, 1);
        int seven = 10 * x.stand(7, 0) + x.stand(7, 1);
        x.keep();
        x.summer(18, 99);
        x.back();
        dueStands("behind the first summer", x, zero, seven);
        x.back();
        dueStands("ahead of it", x, 0, 0);
    }

    private static void counts() {
        TradeWords x = Checks.laid("w0,0,a;w1,0,b;w0,7,a;w1,6,b;n2,7;u0;u1;u01;j0,1,2;j0,1,2;");
        int[] counts = {1, 57, 3, 2, 0, 2, 7};
        for (int what = 0; what < counts.length; what++) {
            due("count(" + what + ")", x.count(what), counts[what]);
        }
        x.keep();
        due("count(4)", x.count(4), 1);
        x.wipe();
        Checks.write(x, "n8,8;u5;");
        due("count(1) is of THE TEXT", x.count(1), 8);
        due("count(2) is of what is LAID", x.count(2), 3);
        due("count(5) is of what is LAID", x.count(5), 2);
        x.lay();
        due("count(2)", x.count(2), 1);
        due("count(3)", x.count(3), 0);
        due("count(4)", x.count(4), 0);
        due("count(6)", x.count(6), 8);
        for (int what : new int[] {-1, 7, Integer.MIN_VALUE, Integer.MAX_VALUE}) {
            due("count(" + what + ")", x.count(what), TradeWords.BAD);
        }
    }
}
