/** Promise 24: fewest. */
public final class NeedTest {
    private static final Checks CHECKS = new Checks();

    public static void main(String[] args) {
        dueSet("", 0);
        dueSet("j0,1,2;", 0);
        dueSet("u0;", 0b1);
        dueSet("u7;u0;u07;", 0b10000001);
        dueSet("u01234567;", 0b11111111);
        // 3 by 0 and 1: no fewer than one word for one meaning alone
        dueSet("u3;j3,0,1;", 0b1000);
        // 0 and 1 say 3 too
        dueSet("u013;j3,0,1;", 0b11);
        // 3 and 4 by 0 and 1, which nobody needs: two either way, 0 and 1 are the least bits
        dueSet("u34;j3,0,1;j4,0,1;", 0b11);
        dueSet("u01;j0,6,7;j1,6,7;", 0b11);
        dueSet("u345;j3,6,7;j4,6,7;j5,6,7;", 0b11000000);
        // 2 by 0 and 1, 3 by 2 and 0: what is itself only joined can't be joined again
        dueSet("u0123;j2,0,1;j3,0,2;", 0b111);
        // what an earlier text told is gone
        TradeWords again = Checks.laid("u012;j2,0,1;");
        again.wipe();
        Checks.write(again, "u012;");
        again.lay();
        CHECKS.due("fewest(0) of another text", again.fewest(0), 0b111);
        // one meaning in two ways
        dueSet("u012;j0,4,5;j0,1,2;", 0b110);
        dueSet("u012;j0,1,2;j0,4,5;", 0b110);
        // needs of several count together
        dueSet("u0;u1;u2;j2,0,1;", 0b11);
        // a meaning needs no word of either people
        dueSet("w0,0,a;w1,0,b;u5;", 0b100000);
        TradeWords x = Checks.laid("u0;");
        CHECKS.due("fewest(-1)", x.fewest(-1), TradeWords.BAD);
        CHECKS.due("fewest(2)", x.fewest(2), TradeWords.BAD);
        CHECKS.end();
    }

    private static void dueSet(String text, int set) {
        TradeWords x = Checks.laid(text);
        CHECKS.due("fewest(0) of " + text, x.fewest(0), set);
        CHECKS.due("fewest(1) of " + text, x.fewest(1), Integer.bitCount(set));
    }
}
