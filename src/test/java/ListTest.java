/** Promises 19 to 21: from, chance, joined. */
public final class ListTest {
    private static final Checks CHECKS = new Checks();

    public static void main(String[] args) {
        fromWhom();
        byChance();
        joinedLists();
        CHECKS.end();
    }

    private static void due(String call, long got, long want) {
        CHECKS.due(call, got, want);
    }

    private static void fromWhom() {
        TradeWords x = Checks.laid("w0,0,aaa;w1,0,aab;e0,0,aaa;e1,0,aab;e2,0,aac;"
            + "w0,1,ab;e0,1,ab;e1,1,cd;w1,2,ab;e0,2,ab;e0,3,ab;"
            + "w0,4,aaaaa;w1,4,aaabb;e0,4,aabbb;e1,4,aaaab;s0,p;s1,p;g60;");
        due("as people 0 say", x.from(0, 0), 0);
        due("as people 1 say", x.from(1, 0), 1);
        due("like both alike: 0", x.from(2, 0), 0);
        due("people 1 have none", x.from(0, 1), 0);
        due("like none", x.from(1, 1), TradeWords.NONE);
        due("people 0 have none", x.from(0, 2), 1);
        due("neither has one", x.from(0, 3), TradeWords.NONE);
        due("80 to 40", x.from(0, 4), 1);
        due("80 to 80", x.from(1, 4), 0);
        due("it wrote none", x.from(2, 4), TradeWords.NO);
        due("nobody wrote", x.from(0, 7), TradeWords.NO);
        due("67 of 67", Checks.laid("w0,0,aaa;e0,0,aab;g67;").from(0, 0), 0);
        due("67 of 68", Checks.laid("w0,0,aaa;e0,0,aab;g68;").from(0, 0), TradeWords.NONE);
        due("67 of 68, the more like one counts", Checks.laid("w0,0,aaa;w1,0,aab;e0,0,aab;g68;").from(0, 0), 1);
        due("0 is none", Checks.laid("w0,0,a;w1,0,a;e0,0,b;g1;").from(0, 0), TradeWords.NONE);
        int[][] bad = {{-1, 0}, {3, 0}, {0, -1}, {0, 8}, {2, 8}};
        for (int[] c : bad) {
            due("BAD from", x.from(c[0], c[1]), TradeWords.BAD);
        }
    }

    private static void byChance() {
        TradeWords x = Checks.laid("w0,0,aaa;w0,1,aab;w0,2,aac;w1,0,pp;w1,7,aaa;e0,0,aaa;e0,1,aaa;e0,5,ppp;e2,7,aaa;g60;s0,n;s1,n;");
        // aaa for 0 with 1 and 2; aaa for 1 with 0 and 2; ppp for 5 with 0, 1 and 2
        due("chance(0, 0, 0)", x.chance(0, 0, 0), 4);
        due("chance(0, 0, 1)", x.chance(0, 0, 1), 7);
        // aaa for 0 with 7; aaa for 1 with 0 and 7; ppp for 5 with 0 (LIKE 67) and 7
        due("chance(0, 1, 0)", x.chance(0, 1, 0), 3);
        due("chance(0, 1, 1)", x.chance(0, 1, 1), 5);
        due("an ear without words", x.chance(1, 0, 0), 0);
        due("an ear without words", x.chance(1, 0, 1), 0);
        due("chance(2, 0, 0)", x.chance(2, 0, 0), 3);
        due("only for other meanings", x.chance(2, 1, 0), 0);
        due("only for other meanings", x.chance(2, 1, 1), 1);
        due("67 is 67 or more", Checks.laid("w0,0,aaa;e0,1,aab;g67;").chance(0, 0, 0), 1);
        due("67 is not 68", Checks.laid("w0,0,aaa;e0,1,aab;g68;").chance(0, 0, 0), 0);
        int[][] bad = {{-1, 0, 0}, {3, 0, 0}, {0, -1, 0}, {0, 2, 0}, {0, 0, -1}, {0, 0, 2}};
        for (int[] c : bad) {
            due("BAD chance", x.chance(c[0], c[1], c[2]), TradeWords.BAD);
        }
    }

    private static void joinedLists() {
        TradeWords x = Checks.laid("e0,0,aaaa;e1,0,aabb;e2,0,bbbb;e0,1,abc;e1,1,pp;e2,1,abc;e1,2,a;e0,3,a;e2,3,b;"
            + "e0,4,pppp;e1,4,ab;e2,4,ab;e1,6,ab;e2,6,ab;e0,7,a;e1,7,b;e2,7,c;");
        due("the middle one", x.joined(0), 1);
        due("two alike: the lowest of them", x.joined(1), 0);
        due("one alone", x.joined(2), 1);
        due("two unlike: the lowest", x.joined(3), 0);
        due("two alike of the others", x.joined(4), 1);
        due("none", x.joined(5), TradeWords.NONE);
        due("without ear 0", x.joined(6), 1);
        due("three unlike: the lowest", x.joined(7), 0);
        due("an ear that wrote none is FAR from nobody", Checks.laid("e1,0,aaaaaa;e2,0,b;").joined(0), 1);
        due("joined(-1)", x.joined(-1), TradeWords.BAD);
        due("joined(8)", x.joined(8), TradeWords.BAD);
        due("an empty beach", new TradeWords().joined(0), TradeWords.NONE);
    }
}
