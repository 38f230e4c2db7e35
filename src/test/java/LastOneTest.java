/** "the last one", "the last one of both", "the last one of X", and what holds without an ITEM. */
public final class LastOneTest {
    private static final Checks CHECKS = new Checks();
    private static final int MILLION = 1000000;
    private static final String TWO_WORDS = "w0,0,a;w1,0,b;";

    private LastOneTest() {
    }

    public static void main(String[] args) {
        wordsOfBoth();
        earsOfBoth();
        soundsOfEachPeople();
        exchangesOfEachSound();
        traders();
        takes();
        speaks();
        alikeFrom();
        withoutAgain();
        onlyTheLastText();
        everyOneOfJoinedAndNeeds();
        told();
        CHECKS.end();
    }

    private static void due(String call, long got, long want) {
        CHECKS.due(call, got, want);
    }

    private static String word(int p, int m, int length) {
        return "w" + p + "," + m + "," + "abcdef".substring(0, length) + ";";
    }

    /** wP,M,WORD: of each P and M the last one, whatever is told of others behind it. */
    private static void wordsOfBoth() {
        StringBuilder once = new StringBuilder();
        StringBuilder twice = new StringBuilder();
        for (int p = 0; p < 2; p++) {
            for (int m = 0; m < 8; m++) {
                once.append(word(p, m, 1 + (p + m) % 5));
                twice.append(word(p, m, 2 + (p + m) % 5));
            }
        }
        TradeWords x = Checks.laid(once.toString() + twice);
        due("all MEANINGS are TOLD", x.count(0), 8);
        for (int p = 0; p < 2; p++) {
            for (int m = 0; m < 8; m++) {
                due("last WORD of " + p + ", " + m, x.word(p, m, p, -1), 2 + (p + m) % 5);
                due("alone it changes no other", aloneAmong(once.toString(), p, m), 1);
            }
        }
        due("a shorter one behind a longer one", Checks.laid("w0,0,abcdef;w0,0,p;").word(0, 0, 0, 1), TradeWords.NONE);
    }

    private static int aloneAmong(String once, int p, int m) {
        TradeWords x = Checks.laid(once + word(p, m, 6));
        for (int q = 0; q < 2; q++) {
            for (int n = 0; n < 8; n++) {
                int want = p == q && m == n ? 6 : 1 + (q + n) % 5;
                if (x.word(q, n, q, -1) != want) {
                    return 0;
                }
            }
        }
        return 1;
    }

    /** eL,M,WORD: people 0 say aaaaaa, people 1 pppppp for all. */
    private static void earsOfBoth() {
        StringBuilder words = new StringBuilder();
        for (int m = 0; m < 8; m++) {
            words.append("w0,").append(m).append(",a;w1,").append(m).append(",p;");
        }
        for (int ear = 0; ear < 3; ear++) {
            for (int m = 0; m < 8; m++) {
                String told = "e" + ear + "," + m;
                TradeWords x = Checks.laid(words + told + ",a;" + told + ",p;");
                due("last WORD of EAR " + told, x.from(ear, m), 1);
                due("only it wrote", x.joined(m), ear);
                due("no other EAR wrote", x.from((ear + 1) % 3, m), TradeWords.NO);
                due("nor it for another", x.from(ear, (m + 1) % 8), TradeWords.NO);
                TradeWords y = Checks.laid(words + told + ",p;e" + (ear + 1) % 3 + "," + m + ",a;e" + ear + "," + (m + 1) % 8 + ",a;");
                due("others told behind it leave it", y.from(ear, m), 1);
                due("another EAR", y.from((ear + 1) % 3, m), 0);
                due("another MEANING", y.from(ear, (m + 1) % 8), 0);
            }
        }
    }

    /** sP,SOUNDS: all without; the last one of each people. */
    private static void soundsOfEachPeople() {
        due("all without", new TradeWords().both(), 0xffff);
        due("all without of PEOPLE 1", Checks.laid("s0,bd;").both(), 0b1010);
        due("all without of PEOPLE 0", Checks.laid("s1,bd;").both(), 0b1010);
        due("the last one, not all together", Checks.laid("s0,ab;s0,bc;").both(), 0b110);
        due("the last one of PEOPLE 1", Checks.laid("s1,bc;s1,ab;").both(), 0b11);
        due("each has its own", Checks.laid("s0,abc;s1,ap;s0,bcp;").both(), 0x8000);
        due("what all can say falls out nowhere", Checks.laid("w0,0,abcdef;w1,0,klmnop;").lost(0), 0);
        due("nor of PEOPLE 1", Checks.laid("w0,0,abcdef;w1,0,klmnop;").lost(1), 0);
    }

    /** rXY: the last one of X; without: X falls out. */
    private static void exchangesOfEachSound() {
        due("without: its length", Checks.laid("w0,0,aba;s1,b;").word(0, 0, 1, -1), 1);
        due("without: LOST", Checks.laid("w0,0,aba;s1,b;").lost(0), 1);
        due("the last one of a", Checks.laid("w0,0,a;s1,bc;rab;rac;").word(0, 0, 1, 0), 2);
        due("the last one of a, the other way", Checks.laid("w0,0,a;s1,bc;rac;rab;").word(0, 0, 1, 0), 1);
        due("the last one can't be said, an earlier one could", Checks.laid("w0,0,a;s1,b;rab;rac;").word(0, 0, 1, -1), 0);
        due("so it is LOST", Checks.laid("w0,0,a;s1,b;rab;rac;").lost(0), 1);
        for (char x = 'a'; x <= 'p'; x++) {
            char y = x == 'p' ? 'a' : (char) (x + 1);
            TradeWords beach = Checks.laid("w0,0," + x + ";w1,0," + x + ";s0," + y + ";s1," + y + ";r" + x + y + ";r" + y + x + ";");
            due(x + " becomes " + y + " with PEOPLE 1", beach.word(0, 0, 1, 0), y - 'a');
            due(x + " becomes " + y + " with PEOPLE 0", beach.word(1, 0, 0, 0), y - 'a');
        }
    }

    /** nA,B: 4, 4 without; the last one. */
    private static void traders() {
        due("A without", Checks.laid(TWO_WORDS).count(5), 4);
        due("B without", Checks.laid(TWO_WORDS).count(6), 4);
        for (int a = 1; a <= 8; a++) {
            for (int b = 1; b <= 8; b++) {
                TradeWords x = Checks.laid(TWO_WORDS + "n" + (9 - a) + "," + (9 - b) + ";n" + a + "," + b + ";");
                due("A", x.count(5), a);
                due("B", x.count(6), b);
                due("x to A, y to B", x.set(0, a, b), 1);
                due("x above A", x.set(0, a + 1, b), TradeWords.BAD);
                due("y above B", x.set(0, a, b + 1), TradeWords.BAD);
                due("all say the other's", 10 * x.stand(0, 0) + x.stand(0, 1), 10 * a + b);
                due("USE of it: B say WORD 0", x.use(0, 0), 1000 * b);
            }
        }
    }

    /** kA,B: 5, 5 without; the last one. With one trader each only people 1 speaks (o0), or only people 0 (o10). */
    private static void takes() {
        due("of ten PEOPLE 0 without", Checks.laid(TWO_WORDS + "n1,1;o0;").won(0, 1, 1), 500000);
        due("of ten PEOPLE 1 without", Checks.laid(TWO_WORDS + "n1,1;o10;").won(0, 1, 0), 500000);
        for (int a = 0; a <= 10; a++) {
            for (int b = 0; b <= 10; b++) {
                String text = TWO_WORDS + "n1,1;k" + (10 - a) + "," + (10 - b) + ";k" + a + "," + b + ";";
                due("k" + a + "," + b + ": PEOPLE 0 takes", Checks.laid(text + "o0;").won(0, 1, 1), 100000 * a);
                due("k" + a + "," + b + ": PEOPLE 1 takes", Checks.laid(text + "o10;").won(0, 1, 0), 100000 * b);
            }
        }
    }

    /** oS: 5 without; the last one. */
    private static void speaks() {
        due("without", Checks.laid(TWO_WORDS + "n1,1;k10,0;").won(0, 1, 1), 500000);
        for (int s = 0; s <= 10; s++) {
            String text = TWO_WORDS + "n1,1;k10,10;o" + (10 - s) + ";o" + s + ";";
            due("o" + s + ": PEOPLE 0 speaks", Checks.laid(text).won(0, 1, 0), 100000 * s);
            due("o" + s + ": PEOPLE 1 speaks", Checks.laid(text).won(0, 1, 1), 100000 * (10 - s));
            due("o" + s + ": none stays", Checks.laid(text).million(0, 1, 0, 0), 0);
        }
    }

    /** gG: 70 without; the last one; "ALIKE from G hundredths on": of each LIKE that words can have. */
    private static void alikeFrom() {
        for (int length = 1; length <= 6; length++) {
            for (int far = 0; far <= length; far++) {
                String words = "w0,0," + "a".repeat(length) + ";w1,0," + "b".repeat(far) + "a".repeat(length - far) + ";";
                int like = 100 - 100 * far / length;
                due("LIKE", Checks.laid(words).like(0), like);
                dueAlike(words, like >= 70);
                for (int g = Math.max(1, like - 1); g <= Math.min(99, like + 1); g++) {
                    dueAlike(words + "g" + (100 - g) + ";g" + g + ";", like >= g);
                }
                dueAlike(words + "g1;", like >= 1);
                dueAlike(words + "g99;", like >= 99);
            }
        }
    }

    private static void dueAlike(String text, boolean alike) {
        TradeWords x = Checks.laid(text + "n1,1;k10,10;o10;");
        due("THE TONGUE of " + text, x.tongue(0), alike ? 1 : 0);
        due("nobody takes a WORD that is ALIKE: " + text, x.million(0, 1, 0, 0), alike ? MILLION : 0);
        due("so of a SUMMER: " + text, x.summer(0, 1), 1);
        due("y behind it: " + text, x.stand(0, 1), alike ? 0 : 1);
    }

    /** What an earlier text told does not hold any more. */
    private static void withoutAgain() {
        TradeWords x = Checks.laid("w0,0,abc;w1,0,abd;w0,5,c;s0,a;s1,b;rab;n1,2;k0,0;o0;g1;j0,1,2;u0;e0,0,a;e2,7,b;");
        x.wipe();
        Checks.writeEights(x, "w0,1,aab;w1,1,aac;");
        due("lay()", x.lay(), 1);
        due("WORD", x.word(0, 0, 0, -1) + x.word(1, 0, 1, -1) + x.word(0, 5, 0, -1), 0);
        due("SOUNDS", x.both(), 0xffff);
        due("A, B", 10 * x.count(5) + x.count(6), 44);
        due("NEEDS, joined", x.count(2) + x.count(3) + x.fewest(0), 0);
        due("EARS", x.joined(0) + x.joined(7), 2 * TradeWords.NONE);
        due("G: 67 is not ALIKE", x.tongue(0), 0);
        due("k and o", x.million(1, 1, 1, 0), 250000);
        due("k and o", x.million(1, 1, 0, 1), 250000);
        x.wipe();
        Checks.writeEights(x, "w0,0,a;s1,b;");
        x.lay();
        due("r", x.word(0, 0, 1, -1), 0);
        x.wipe();
        due("lay() of the empty text", x.lay(), 0);
        due("is as a new object", State.of(x).equals(State.of(new TradeWords())) ? 1 : 0, 1);
    }

    /** Of three texts, one behind the other, the last one without a FAULT is LAID, and nothing of the others is left. */
    private static void onlyTheLastText() {
        String[] texts = {"", "w0,0,abc;w1,0,abd;w0,5,c;s0,a;s1,b;rab;n1,2;k0,0;o0;g1;j0,1,2;u07;e0,0,abc;e2,7,b;",
            "w0,0,ab;w1,0,ba;w0,7,k;w1,7,c;s1,abc;rkc;n3,2;j7,0,1;u017;e1,0,ab;", "w0,3,p;w1,3,o;n8,8;e1,3,p;u6;u5;j5,4,3;z"};
        for (String first : texts) {
            for (String second : texts) {
                for (String third : texts) {
                    dueLastText(first, second, third);
                }
            }
        }
    }

    private static void dueLastText(String... texts) {
        TradeWords x = new TradeWords();
        TradeWords fresh = new TradeWords();
        for (String text : texts) {
            x.wipe();
            Checks.writeEights(x, text);
            x.fault();
            if (x.lay() != TradeWords.NO) {
                fresh = Checks.laid(text);
            }
            x.set(0, 1, 1);
            fresh.set(0, 1, 1);
        }
        fresh.wipe();
        Checks.writeEights(fresh, texts[texts.length - 1]);
        due("only the last text: " + String.join(" ", texts), State.of(x).equals(State.of(fresh)) ? 1 : 0, 1);
    }

    /** Of j and u not the last one counts but all. */
    private static void everyOneOfJoinedAndNeeds() {
        TradeWords x = Checks.laid("u0;u1;u27;j2,0,1;j7,0,1;");
        due("all NEEDS, both joined", x.fewest(0), 0b11);
        due("NEEDS told", x.count(2), 3);
        due("joined ones told", x.count(3), 2);
        due("one MEANING twice, the first does", Checks.laid("u0167;j7,0,1;j7,4,5;").fewest(0), 0b1000011);
        due("one MEANING twice, the last does", Checks.laid("u0167;j7,4,5;j7,0,1;").fewest(0), 0b1000011);
    }

    /** "A MEANING is TOLD, if both PEOPLES have a WORD for it." */
    private static void told() {
        for (int m = 0; m < 8; m++) {
            due("PEOPLE 0 alone", Checks.laid(word(0, m, 1)).count(0), 0);
            due("PEOPLE 1 alone", Checks.laid(word(1, m, 1)).count(0), 0);
            due("an EAR is no PEOPLE", Checks.laid(word(0, m, 1) + "e0," + m + ",a;e1," + m + ",a;").count(0), 0);
            due("both", Checks.laid(word(0, m, 1) + word(1, m, 6)).count(0), 1);
            due("of two MEANINGS", Checks.laid(word(0, m, 1) + word(1, (m + 1) % 8, 1)).count(0), 0);
            TradeWords x = Checks.laid(word(0, m, 1) + word(1, m, 6));
            for (int n = 0; n < 8; n++) {
                due("stand(" + n + ", 0), " + m + " is TOLD", x.stand(n, 0), n == m ? 0 : TradeWords.NO);
            }
        }
        StringBuilder all = new StringBuilder();
        for (int m = 0; m < 8; m++) {
            due("lay() of " + m, Checks.laid(all.toString()).lay(), m);
            all.append(word(0, m, 1)).append(word(1, m, 1));
        }
        due("lay() of all", Checks.laid(all.toString()).lay(), 8);
        // a WORD that PEOPLE 1 can't say at all is a WORD all the same
        due("nothing left in the other's mouth", Checks.laid("w0,0,a;w1,0,b;s0,c;s1,c;").count(0), 1);
    }
}
