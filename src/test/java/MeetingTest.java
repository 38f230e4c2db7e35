/** Promises 9 to 16: stand, set, million, won, soon, use, traders, ready. */
public final class MeetingTest {
    private static final Checks CHECKS = new Checks();
    private static final String TWO_WORDS = "w0,0,a;w1,0,b;";
    private static final int MILLION = 1000000;

    public static void main(String[] args) {
        standAndSet();
        boundsOfMillion();
        oneTraderOfEach();
        fourWaysToGoOn();
        cutEachTime();
        alikeStays();
        wonAndSoon();
        boundsOfSoon();
        useOfWordZero();
        fewestTraders();
        leastReady();
        boundsOfTradersAndReady();
        nothingChanges();
        CHECKS.end();
    }

    private static void due(String call, long got, long want) {
        CHECKS.due(call, got, want);
    }

    private static void standAndSet() {
        TradeWords x = Checks.laid(TWO_WORDS + "w0,7,a;w1,7,b;w0,3,a;n2,5;");
        due("stand(0, 0)", x.stand(0, 0), 0);
        due("stand(7, 1)", x.stand(7, 1), 0);
        due("set(0, 2, 5)", x.set(0, 2, 5), 1);
        due("set(7, 1, 4)", x.set(7, 1, 4), 1);
        due("stand(0, 0)", x.stand(0, 0), 2);
        due("stand(0, 1)", x.stand(0, 1), 5);
        due("stand(7, 0)", x.stand(7, 0), 1);
        due("stand(7, 1)", x.stand(7, 1), 4);
        due("set(0, 0, 0)", x.set(0, 0, 0), 1);
        due("stand(0, 1)", x.stand(0, 1), 0);
        int[][] bad = {{-1, 0, 0}, {8, 0, 0}, {0, -1, 0}, {0, 3, 0}, {0, 0, -1}, {0, 0, 6}, {3, 3, 0}, {3, 0, 6}};
        for (int[] c : bad) {
            due("BAD set", x.set(c[0], c[1], c[2]), TradeWords.BAD);
        }
        due("NO set", x.set(3, 2, 5), TradeWords.NO);
        due("NO set", x.set(5, 0, 0), TradeWords.NO);
        due("stand as before", x.stand(7, 1), 4);
        due("NO stand", x.stand(3, 0), TradeWords.NO);
        int[][] badStands = {{-1, 0}, {8, 0}, {0, -1}, {0, 2}, {3, 2}};
        for (int[] c : badStands) {
            due("BAD stand", x.stand(c[0], c[1]), TradeWords.BAD);
        }
        due("an ALIKE meaning has a stand too", Checks.laid("w0,0,a;w1,0,a;").set(0, 4, 4), 1);
    }

    private static void boundsOfMillion() {
        TradeWords x = Checks.laid(TWO_WORDS + "n2,5;");
        int[][] bad = {{-1, 0, 0, 0}, {8, 0, 0, 0}, {0, -1, 0, 0}, {0, 201, 0, 0}, {0, 0, -1, 0}, {0, 0, 3, 0}, {0, 0, 0, -1},
            {0, 0, 0, 6}, {1, 0, 3, 0}};
        for (int[] c : bad) {
            due("BAD million", x.million(c[0], c[1], c[2], c[3]), TradeWords.BAD);
        }
        due("NO million", x.million(1, 0, 2, 5), TradeWords.NO);
        due("million at the edge", x.million(0, 200, 1, 5) >= 0 ? 1 : 0, 1);
        int[][] badWon = {{-1, 0, 0}, {8, 0, 0}, {0, -1, 0}, {0, 201, 0}, {0, 0, -1}, {0, 0, 2}, {1, 0, 2}};
        for (int[] c : badWon) {
            due("BAD won", x.won(c[0], c[1], c[2]), TradeWords.BAD);
        }
        due("NO won", x.won(1, 200, 1), TradeWords.NO);
        int[][] badUse = {{-1, 0}, {8, 0}, {0, -1}, {0, 201}, {1, 201}};
        for (int[] c : badUse) {
            due("BAD use", x.use(c[0], c[1]), TradeWords.BAD);
        }
        due("NO use", x.use(1, 200), TradeWords.NO);
    }

    /** One trader of each: 3 of ten times people 0 speaks, people 0 takes 2 of ten times, people 1 9 of ten. */
    private static void oneTraderOfEach() {
        TradeWords x = Checks.laid(TWO_WORDS + "n1,1;o3;k2,9;");
        due("none yet", x.million(0, 0, 0, 0), MILLION);
        due("x behind one: 7 times 2 of 100", x.million(0, 1, 1, 0), 140000);
        due("y behind one: 3 times 9 of 100", x.million(0, 1, 0, 1), 270000);
        due("the others stay", x.million(0, 1, 0, 0), 590000);
        due("x behind two", x.million(0, 2, 1, 0), 140000 + 82600);
        due("y behind two", x.million(0, 2, 0, 1), 270000 + 159300);
        due("both can't have changed", x.million(0, 2, 1, 1), 0);
        due("won by 1", x.won(0, 2, 1), 222600);
        due("won by 0", x.won(0, 2, 0), 429300);
        x.set(0, 1, 1);
        due("back to their own, people 0", x.million(0, 1, 0, 1), 140000);
        due("back to their own, people 1", x.million(0, 1, 1, 0), 270000);
        due("stay", x.million(0, 1, 1, 1), 590000);
    }

    /** From x 1 of 2, y 2 of 5: 3 pairs of ten say their own, 2 of ten the other's. */
    private static void fourWaysToGoOn() {
        TradeWords x = Checks.laid(TWO_WORDS + "n2,5;o4;k10,5;");
        x.set(0, 1, 2);
        due("x and 1: 60 of 100 times 3 of 10", x.million(0, 1, 2, 2), 180000);
        due("x less 1: 60 of 100 times 2 of 10", x.million(0, 1, 0, 2), 120000);
        due("y and 1: 20 of 100 times 3 of 10", x.million(0, 1, 1, 3), 60000);
        due("y less 1: 20 of 100 times 2 of 10", x.million(0, 1, 1, 1), 40000);
        due("stay", x.million(0, 1, 1, 2), 600000);
        due("use: 3 of 7 say word 0, and the changes", x.use(0, 1), 3000 - 180 + 120 + 60 - 40);
        x.set(0, 2, 5);
        due("all the other's: x less 1", x.million(0, 1, 1, 5), 600000);
        due("all the other's: y less 1", x.million(0, 1, 2, 4), 200000);
        x.set(0, 0, 5);
        due("all say word 0: none goes on", x.million(0, 200, 0, 5), MILLION);
        x.set(0, 2, 0);
        due("all say word 1: none goes on", x.million(0, 200, 2, 0), MILLION);
    }

    /** 3 traders and 7: a part of 2100 is cut each time. */
    private static void cutEachTime() {
        TradeWords x = Checks.laid(TWO_WORDS + "n3,7;o3;k1,1;");
        // from 1, 2: own 2 times 5, other's 1 times 2; 7 and 3 of a hundred
        x.set(0, 1, 2);
        due("x and 1: 70 of 2100", x.million(0, 1, 2, 2), 33333);
        due("x less 1: 14 of 2100", x.million(0, 1, 0, 2), 6666);
        due("y and 1: 30 of 2100", x.million(0, 1, 1, 3), 14285);
        due("y less 1: 6 of 2100", x.million(0, 1, 1, 1), 2857);
        due("the rest stays", x.million(0, 1, 1, 2), MILLION - 33333 - 6666 - 14285 - 2857);
        long sum = 0;
        for (int a = 0; a <= 3; a++) {
            for (int b = 0; b <= 7; b++) {
                sum += x.million(0, 200, a, b);
            }
        }
        due("a million are parted, none is lost", sum, MILLION);
        // 8 of each, and only people 1 hears: y goes on alone
        TradeWords y = Checks.laid(TWO_WORDS + "n8,8;o10;k0,1;");
        due("y and 1: 10 of 100", y.million(0, 1, 0, 1), 100000);
        due("two behind two: 100000 times 560 by 6400", y.million(0, 2, 0, 2), 8750);
        due("three behind three: 8750 times 480 by 6400", y.million(0, 3, 0, 3), 656);
        due("four behind four: 656 times 400 by 6400", y.million(0, 4, 0, 4), 41);
        due("five behind five: 41 times 320 by 6400", y.million(0, 5, 0, 5), 2);
        due("none behind six: 2 times 240 by 6400", y.million(0, 6, 0, 6), 0);
    }

    private static void alikeStays() {
        // 2 of 3 are alike: LIKE is 67
        String text = "w0,0,aab;w1,0,aac;n1,1;k10,10;o5;";
        due("LIKE 67, ALIKE from 67 on", Checks.laid(text + "g67;").won(0, 200, 0), 0);
        due("all stay", Checks.laid(text + "g67;").million(0, 200, 0, 0), MILLION);
        due("not ALIKE from 68 on", Checks.laid(text + "g68;").won(0, 1, 0), 500000);
        due("70 without", Checks.laid(text).won(0, 1, 0), 500000);
        due("67 is ALIKE by 1", Checks.laid(text + "g1;").traders(0, 200, 0, 1), TradeWords.NONE);
        due("67 is ALIKE by 1", Checks.laid(text + "g1;").ready(0, 200, 0, 1), TradeWords.NONE);
        TradeWords x = Checks.laid("w0,0,a;w1,0,a;");
        due("soon of an ALIKE one", x.soon(0, 1), TradeWords.NONE);
        due("use of an ALIKE one", x.use(0, 200), 4000);
        x.set(0, 4, 0);
        due("set where all say word 1", x.soon(0, 100), 0);
        due("and it is won", x.won(0, 200, 1), MILLION);
        due("and ready", x.ready(0, 200, 1, 100), 0);
        x.set(0, 2, 2);
        due("it stays where it is set", x.million(0, 200, 2, 2), MILLION);
    }

    private static void wonAndSoon() {
        TradeWords x = Checks.laid(TWO_WORDS + "n1,1;k10,10;o5;");
        due("won by 0", x.won(0, 1, 0), 500000);
        due("won by 1", x.won(0, 1, 1), 500000);
        due("won by either, together", x.soon(0, 100), 1);
        due("soon(0, 1)", x.soon(0, 1), 1);
        x.set(0, 0, 1);
        due("won by 0 already", x.soon(0, 100), 0);
        due("won by 0 already", x.won(0, 0, 0), MILLION);
        x.set(0, 1, 0);
        due("won by 1 already", x.won(0, 0, 1), MILLION);
        due("not by 0", x.won(0, 0, 0), 0);
        // half of the others each time: 500000, 750000, 875000, ..
        TradeWords half = Checks.laid(TWO_WORDS + "n1,1;k5,5;");
        due("50 of a hundred", half.soon(0, 50), 1);
        due("51 of a hundred", half.soon(0, 51), 2);
        due("75 of a hundred", half.soon(0, 75), 2);
        due("76 of a hundred", half.soon(0, 76), 3);
        due("99 of a hundred: the least n with 990000", half.soon(0, 99), 7);
        due("100: some stay for ever", half.soon(0, 100), TradeWords.NONE);
        // one of a hundred goes on each time
        TradeWords slow = Checks.laid(TWO_WORDS + "n1,1;k0,1;o1;");
        due("slow: 1", slow.soon(0, 1), 1);
        due("slow: behind 200", slow.won(0, 200, 0) >= 860000 ? 1 : 0, 1);
        due("slow: 86 by the 200th or earlier", slow.soon(0, 86) > 190 ? 1 : 0, 1);
        due("slow: 87 later than 200", slow.soon(0, 87), TradeWords.NONE);
        TradeWords never = Checks.laid(TWO_WORDS + "k0,0;");
        due("nobody takes", never.soon(0, 1), TradeWords.NONE);
    }

    private static void boundsOfSoon() {
        TradeWords x = Checks.laid(TWO_WORDS);
        int[][] bad = {{-1, 50}, {8, 50}, {0, 0}, {0, 101}, {0, -1}, {1, 0}};
        for (int[] c : bad) {
            due("BAD soon", x.soon(c[0], c[1]), TradeWords.BAD);
        }
        due("NO soon", x.soon(1, 50), TradeWords.NO);
        due("soon exactly at 200 meetings", soonAtTheEdge(), 1);
    }

    /** The hundredths that are won behind 200 and not behind 199 are answered by 200. */
    private static int soonAtTheEdge() {
        for (int speaks = 1; speaks <= 10; speaks++) {
            for (int traders = 1; traders <= 8; traders++) {
                TradeWords x = Checks.laid(TWO_WORDS + "k1,1;o" + speaks + ";n" + traders + "," + traders + ";");
                int before = (x.won(0, 199, 0) + x.won(0, 199, 1)) / 10000;
                int behind = (x.won(0, 200, 0) + x.won(0, 200, 1)) / 10000;
                if (before < behind) {
                    return x.soon(0, behind) == 200 ? 1 : 0;
                }
            }
        }
        return -1;
    }

    private static void useOfWordZero() {
        TradeWords x = Checks.laid(TWO_WORDS + "n3,7;o3;k1,1;");
        due("all say their own", x.use(0, 0), 3000);
        x.set(0, 1, 2);
        // 4 say it; 33333 and 2857 one less, 6666 and 14285 one more
        due("use, cut once", x.use(0, 1), (4 * 1000000 - 33333 - 2857 + 6666 + 14285) / 1000);
        due("all take word 1", Checks.laid(TWO_WORDS + "n1,1;k10,0;o0;").use(0, 1), 0);
        due("a tenth says one more", Checks.laid(TWO_WORDS + "n8,8;o10;k0,1;").use(0, 1), 8100);
        x.set(0, 0, 7);
        due("all say word 0", x.use(0, 200), 10000);
        x.set(0, 3, 0);
        due("all say word 1", x.use(0, 200), 0);
    }

    private static void fewestTraders() {
        TradeWords x = Checks.laid(TWO_WORDS + "n5,3;k10,10;o5;");
        due("one of each: half are won by 0", x.traders(0, 1, 0, 50), 1);
        due("one of each: half are won by 1", x.traders(0, 1, 1, 50), 1);
        due("never more", x.traders(0, 200, 0, 51), TradeWords.NONE);
        x.set(0, 5, 0);
        due("all say their own at first, whatever the STAND is", x.traders(0, 0, 1, 1), TradeWords.NONE);
        TradeWords y = Checks.laid(TWO_WORDS + "k0,10;o10;");
        due("people 0 alone speaks", y.traders(0, 1, 0, 100), 1);
        due("never by word 1", y.traders(0, 200, 1, 1), TradeWords.NONE);
        due("NO meetings", y.traders(0, 0, 0, 1), TradeWords.NONE);
        tradersAsWonTells();
    }

    /** The answer is the least t of those with which won tells enough. */
    private static void tradersAsWonTells() {
        for (int speaks = 0; speaks <= 10; speaks++) {
            for (int takes = 1; takes <= 10; takes++) {
                String text = TWO_WORDS + "o" + speaks + ";k" + takes + "," + (11 - takes) + ";";
                TradeWords x = Checks.laid(text);
                for (int q : new int[] {1, 20, 40, 60, 80, 100}) {
                    int want = TradeWords.NONE;
                    for (int t = 8; t >= 1; t--) {
                        if (Checks.laid(text + "n" + t + "," + t + ";").won(0, 60, 1) >= 10000 * q) {
                            want = t;
                        }
                    }
                    due("traders as won tells: " + text + q, x.traders(0, 60, 1, q), want);
                }
            }
        }
    }

    private static void leastReady() {
        TradeWords x = Checks.laid(TWO_WORDS + "n1,1;k0,0;o5;");
        due("r of ten, half of the times people 0 speaks", x.ready(0, 1, 0, 50), 10);
        due("40 of a hundred", x.ready(0, 1, 1, 40), 8);
        due("41 of a hundred", x.ready(0, 1, 1, 41), 9);
        due("1 of a hundred", x.ready(0, 1, 0, 1), 1);
        due("51 of a hundred", x.ready(0, 200, 0, 51), TradeWords.NONE);
        x.set(0, 0, 1);
        due("won already", x.ready(0, 9, 0, 100), 0);
        due("lost already", x.ready(0, 9, 1, 1), TradeWords.NONE);
        TradeWords y = Checks.laid(TWO_WORDS + "n1,1;k0,0;o10;");
        due("people 0 alone speaks", y.ready(0, 1, 0, 100), 10);
        due("never by word 1", y.ready(0, 200, 1, 1), TradeWords.NONE);
        TradeWords z = Checks.laid(TWO_WORDS + "n2,1;k3,3;o0;");
        z.set(0, 1, 0);
        due("from the STAND now: half of 10 r times 2", z.ready(0, 1, 1, 50), 10);
        due("from the STAND now", z.ready(0, 1, 1, 25), 5);
    }

    private static void boundsOfTradersAndReady() {
        TradeWords x = Checks.laid(TWO_WORDS);
        int[][] bad = {{-1, 0, 0, 1}, {8, 0, 0, 1}, {0, -1, 0, 1}, {0, 201, 0, 1}, {0, 0, -1, 1}, {0, 0, 2, 1}, {0, 0, 0, 0},
            {0, 0, 0, 101}, {1, 0, 0, 0}};
        for (int[] c : bad) {
            due("BAD traders", x.traders(c[0], c[1], c[2], c[3]), TradeWords.BAD);
            due("BAD ready", x.ready(c[0], c[1], c[2], c[3]), TradeWords.BAD);
        }
        due("NO traders", x.traders(1, 200, 1, 100), TradeWords.NO);
        due("NO ready", x.ready(1, 200, 1, 100), TradeWords.NO);
    }

    /** What is only asked changes no STAND. */
    private static void nothingChanges() {
        TradeWords x = Checks.laid(TWO_WORDS + "n5,3;");
        x.set(0, 2, 1);
        int first = x.million(0, 7, 3, 1);
        x.traders(0, 50, 0, 20);
        x.ready(0, 50, 0, 20);
        x.soon(0, 90);
        x.use(0, 50);
        x.won(0, 50, 1);
        due("million again", x.million(0, 7, 3, 1), first);
        due("stand", 10 * x.stand(0, 0) + x.stand(0, 1), 21);
        due("A, B", 10 * x.count(5) + x.count(6), 53);
    }
}
