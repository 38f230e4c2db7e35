/** Promises 1 to 5: a new object, write, wipe, fault, lay. */
public final class TextTest {
    private static final Checks CHECKS = new Checks();

    public static void main(String[] args) {
        newObject();
        bytesOfWrite();
        boundsOfWrite();
        wiping();
        goodTexts();
        faultyTexts();
        numbersOfTwoFigures();
        tooMany();
        laying();
        layingWithAFault();
        lastOnesHold();
        CHECKS.end();
    }

    private static void due(String call, long got, long want) {
        CHECKS.due(call, got, want);
    }

    private static void newObject() {
        TradeWords x = new TradeWords();
        int[] counts = {0, 0, 0, 0, 0, 4, 4};
        for (int what = 0; what < counts.length; what++) {
            due("new: count(" + what + ")", x.count(what), counts[what]);
        }
        due("new: fault()", x.fault(), TradeWords.NONE);
        due("new: both()", x.both(), 0xffff);
        due("new: fewest(0)", x.fewest(0), 0);
        for (int m = 0; m < 8; m++) {
            due("new: word(0, m, 0, -1)", x.word(0, m, 0, -1), 0);
            due("new: stand(m, 0)", x.stand(m, 0), TradeWords.NO);
        }
        due("new: lay()", x.lay(), 0);
        due("new: back()", x.back(), TradeWords.NO);
    }

    private static void bytesOfWrite() {
        TradeWords x = new TradeWords();
        due("write(3, o9;)", x.write(3, 0x6f393bL), 3);
        due("highest byte first", x.fault(), TradeWords.NONE);
        due("bytes above the n lowest are not written", x.write(1, 0x123456789abcde00L + 'o'), 4);
        due("an item begun", x.fault(), 3);
        due("and ended", x.write(2, -0x10000L + 0x353b), 6);
        due("is none", x.fault(), TradeWords.NONE);
        due("eight bytes of a number below 0", x.write(8, -1L), 14);
        due("which begin no item", x.fault(), 6);
        TradeWords y = new TradeWords();
        due("write(8, w0,0,ab;)", y.write(8, Checks.value("w0,0,ab;")), 8);
        due("its fault()", y.fault(), TradeWords.NONE);
    }

    private static void boundsOfWrite() {
        TradeWords x = new TradeWords();
        for (int n : new int[] {0, -1, 9, Integer.MIN_VALUE, Integer.MAX_VALUE}) {
            due("write(" + n + ", 0)", x.write(n, 0), TradeWords.BAD);
        }
        due("nothing was written", x.count(1), 0);
        for (int k = 1; k <= 62; k++) {
            due("write(8, ..)", x.write(8, Checks.value("o1;o2;o3")), 8 * k);
        }
        due("496 and 5", x.write(5, 0), TradeWords.FULL);
        due("496 and 8", x.write(8, 0), TradeWords.FULL);
        due("nothing came behind it", x.count(1), 496);
        due("496 and 4", x.write(4, 0), 500);
        due("500 and 1", x.write(1, 0), TradeWords.FULL);
        due("BAD comes ahead of FULL", x.write(9, 0), TradeWords.BAD);
        due("wipe()", x.wipe(), 500);
        due("room again", x.write(1, 0), 1);
        String full = "o5;".repeat(166) + "o";
        due("all 500 bytes are read", Checks.faultOf(full + ";"), 498);
        due("a text of 500 bytes", Checks.faultOf("o5;".repeat(164) + "w0,0,ab;"), TradeWords.NONE);
    }

    private static void wiping() {
        TradeWords x = Checks.laid("w0,0,a;w1,0,b;n2,3;");
        x.set(0, 1, 1);
        x.keep();
        due("wipe()", x.wipe(), 19);
        due("count(1)", x.count(1), 0);
        due("wipe() of none", x.wipe(), 0);
        due("fault() of none", x.fault(), TradeWords.NONE);
        due("LAID is as before", x.count(0), 1);
        due("A is as before", x.count(5), 2);
        due("the STAND is as before", x.stand(0, 0), 1);
        due("KEPT is as before", x.count(4), 1);
        due("lay() of none", x.lay(), 0);
        Checks.write(x, "o5;o5;");
        x.wipe();
        Checks.write(x, "o5");
        due("what was wiped is not read again", x.fault(), 0);
        due("nor laid", x.lay(), TradeWords.NO);
        due("A of none", x.count(5), 4);
    }

    private static void goodTexts() {
        String[] good = {"w0,0,a;", "w1,7,abcdef;", "w0,3,pppppp;", "s0,a;", "s1,abcdefghijklmnop;", "s1,p;", "rab;",
            "rpo;", "n1,1;", "n8,8;", "k0,0;", "k10,10;", "o0;", "o10;", "g1;", "g99;", "j0,1,2;", "j7,6,5;", "j1,7,0;", "j5,0,7;", "u0;", "u7;",
            "u01234567;", "e0,0,a;", "e2,7,ponmlk;"};
        for (String text : good) {
            due("fault() of " + text, Checks.faultOf(text), TradeWords.NONE);
            due("fault() of it twice", Checks.faultOf(text + text), TradeWords.NONE);
        }
    }

    private static void faultyTexts() {
        String[] faulty = {";", "x1;", "W0,0,a;", " o5;", "w;", "w0;", "w0,;", "w0,0;", "w0,0,;", "w2,0,a;", "w0,8,a;",
            "w0,0,q;", "w0,0,A;", "w0,0,abcdefg;", "w0,0,a", "w0,0,a,;", "w,0,a;", "w0,,a;", "w0,0a;", "w00,0a;", "w0;0;a;",
            "w0,0,a`;", "w-1,0,a;", "s0;", "s0,;", "s2,a;", "s0,ba;", "s0,aa;", "s0,q;", "s0,abcdefghijklmnopq;", "s0,a,b;",
            "r;", "ra;", "raa;", "rabc;", "rqa;", "raq;", "ra,b;", "n0,1;", "n1,0;", "n9,1;", "n1,9;", "n1;", "n1,;",
            "n1,1,1;", "n10,1;", "k11,0;", "k0,11;", "k5;", "k,5;", "o11;", "o;", "o5,;", "o5,5;", "o-1;", "g0;", "g00;",
            "g100;", "g;", "j0,0,1;", "j0,1,1;", "j0,1,0;", "j8,0,1;", "j0,8,1;", "j0,1,8;", "j0,1;", "j0,1,2,3;", "u;",
            "u10;", "u00;", "u8;", "u0,1;", "u012345678;", "e3,0,a;", "e0,8,a;", "e0,0,;", "e0,0,abcdefg;", "e0,0;",
            "s0,`;", "s0,`a;", "u/;", "u/0;", "u:;", "w0,0,`;", "r`a;", "ra`;", "o/;", "o:;", "o005;", "w000,0,a;", "o5", "o", "u0"};
        for (String text : faulty) {
            due("fault() of " + text, Checks.faultOf(text), 0);
            due("fault() of w0,0,ab;" + text, Checks.faultOf("w0,0,ab;" + text), 8);
            due("fault() of the first of two, " + text, Checks.faultOf("o5;" + text + "z;"), 3);
        }
        TradeWords x = new TradeWords();
        x.write(4, 0x6f35003bL);
        due("a byte 0 within", x.fault(), 0);
        x.wipe();
        x.write(3, 0x6f35bbL);
        due("a byte above 127 is no other", x.fault(), 0);
        x.wipe();
        x.write(4, 0x6f353b00L);
        due("a byte 0 behind", x.fault(), 3);
    }

    private static void numbersOfTwoFigures() {
        TradeWords x = Checks.laid("w00,07,a;w01,07,b;n03,08;k05,00;o05;g07;j07,06,05;e02,07,c;");
        due("two figures: count(0)", x.count(0), 1);
        due("two figures: word", x.word(1, 7, 1, 0), 1);
        due("two figures: A", x.count(5), 3);
        due("two figures: B", x.count(6), 8);
        due("two figures: joined", x.count(3), 1);
        due("two figures: ear", x.joined(7), 2);
        due("u takes single figures: 06", Checks.faultOf("u06;"), TradeWords.NONE);
    }

    private static void tooMany() {
        due("8 joined", Checks.faultOf("j0,1,2;".repeat(8)), TradeWords.NONE);
        due("9 joined", Checks.faultOf("j0,1,2;".repeat(9)), 56);
        due("6 needs", Checks.faultOf("u0;".repeat(6)), TradeWords.NONE);
        due("7 needs", Checks.faultOf("u0;".repeat(7)), 18);
        due("7 needs, an earlier fault", Checks.faultOf("u0;".repeat(6) + "o;" + "u0;"), 18);
        due("as many of the others as there is room for", Checks.faultOf("rab;".repeat(125)), TradeWords.NONE);
        TradeWords x = new TradeWords();
        Checks.writeEights(x, "u0;".repeat(6));
        due("fault() counts anew", x.fault() + x.fault() + x.fault(), 3 * TradeWords.NONE);
        due("lay() of 6 needs", x.lay(), 0);
        due("lay() again", x.lay(), 0);
        due("count(2)", x.count(2), 6);
    }

    private static void laying() {
        TradeWords x = new TradeWords();
        Checks.write(x, "w0,0,a;w1,0,b;w0,1,c;w1,2,d;w0,7,e;w1,7,f;");
        due("nothing LAID before lay()", x.count(0), 0);
        due("lay()", x.lay(), 2);
        due("count(0)", x.count(0), 2);
        due("THE TEXT stays", x.count(1), 42);
        due("told by one alone", x.stand(1, 0), TradeWords.NO);
        due("told by the other alone", x.stand(2, 0), TradeWords.NO);
        x.set(0, 3, 2);
        x.keep();
        x.keep();
        due("lay() again", x.lay(), 2);
        due("all say their own", x.stand(0, 0), 0);
        due("all say their own", x.stand(0, 1), 0);
        due("nothing KEPT", x.count(4), 0);
        due("nothing to go back to", x.back(), TradeWords.NO);
        x.wipe();
        Checks.write(x, "o5;");
        due("lay() of another text", x.lay(), 0);
        due("without words", x.word(0, 0, 0, -1), 0);
    }

    private static void layingWithAFault() {
        TradeWords x = Checks.laid("w0,0,a;w1,0,b;n2,3;j0,1,2;u0;");
        x.set(0, 1, 2);
        x.keep();
        x.wipe();
        Checks.writeEights(x, "w0,0,pp;n8,8;u1;u2;o11;");
        due("fault()", x.fault(), 19);
        due("lay()", x.lay(), TradeWords.NO);
        due("words as before", x.word(0, 0, 0, -1), 1);
        due("A as before", x.count(5), 2);
        due("needs as before", x.count(2), 1);
        due("joined as before", x.count(3), 1);
        due("stand as before", x.stand(0, 1), 2);
        due("KEPT as before", x.count(4), 1);
        due("THE TEXT as before", x.count(1), 23);
    }

    private static void lastOnesHold() {
        TradeWords x = Checks.laid("w0,0,a;w1,0,ccc;w0,0,bb;n2,3;n4,5;s0,ac;s0,bc;s1,ab;e1,0,a;e1,0,ccc;g99;g1;rab;rac;");
        due("last word", x.word(0, 0, 0, -1), 2);
        due("other's word", x.word(1, 0, 1, -1), 3);
        due("last traders", x.count(5), 4);
        due("last traders", x.count(6), 5);
        due("last sounds of each", x.both(), 2);
        due("last word of an ear", x.from(1, 0), 1);
        due("last exchange of a", Checks.laid("w0,0,a;s1,bc;rab;rac;").word(0, 0, 1, 0), 2);
        due("exchanges of others stay", Checks.laid("w0,0,a;s1,bc;rab;rdc;").word(0, 0, 1, 0), 1);
        due("last o", Checks.laid("w0,0,a;w1,0,b;n1,1;k10,10;o10;o0;").won(0, 1, 1), 1000000);
        due("last k", Checks.laid("w0,0,a;w1,0,b;n1,1;o0;k10,10;k0,0;").won(0, 1, 1), 0);
        due("k and o without: 25 of a hundred", Checks.laid("w0,0,a;w1,0,b;n1,1;").won(0, 1, 0), 250000);
        due("o without", Checks.laid("w0,0,a;w1,0,b;n1,1;k10,10;").won(0, 1, 1), 500000);
        due("g without: 67 is not ALIKE", Checks.laid("w0,0,aab;w1,0,aac;").tongue(0), 0);
        due("g without: 75 is", Checks.laid("w0,0,aaab;w1,0,aaac;").tongue(0), 1);
        due("last g", Checks.laid("w0,0,aab;w1,0,aac;g68;g67;").tongue(0), 1);
        due("last g", Checks.laid("w0,0,aab;w1,0,aac;g67;g68;").tongue(0), 0);
    }
}
