import java.util.ArrayList;
import java.util.List;
import java.util.function.Supplier;
import java.util.function.ToIntFunction;

/** "BAD .. NO .. NONE .. FULL. Of several the first; nothing changes then": for each call that can be refused. */
public final class RefusalTest {
    private static final Checks CHECKS = new Checks();
    private static final int BAD = TradeWords.BAD, NO = TradeWords.NO, FULL = TradeWords.FULL, NONE = TradeWords.NONE;
    private static final int[] FAR_OUT = {Integer.MIN_VALUE, Integer.MAX_VALUE};

    /** MEANINGS 0 and 7 are TOLD, 3 and 4 by one people alone; EAR 1 wrote for 0 and 7 what nobody says. */
    private static final String TEXT = "w0,0,abk;w1,0,cdp;w0,7,ab;w1,7,ba;w0,3,a;w1,4,b;s0,abcdk;s1,abcdp;rkc;rpo;n2,5;k4,7;o3;g60;"
        + "j1,2,3;u12;e1,0,ffff;e0,7,ab;e1,7,mmmmmm;";
    private static final String FINE = "w0,2,abc;w1,2,pon;n3,3;u5;j0,1,2;";
    private static final String FAULTY = "w0,2,abc;w1,2,pon;n3,3;u5;j0,1,2;s0,k;k1,1;e2,2,a;o0;g1;rab;o11;";

    private static final class Case {
        final String name;
        final int want;
        final ToIntFunction<TradeWords> call;

        Case(String name, int want, ToIntFunction<TradeWords> call) {
            this.name = name;
            this.want = want;
            this.call = call;
        }
    }

    private static final List<Case> CASES = new ArrayList<>();

    private RefusalTest() {
    }

    public static void main(String[] args) {
        refusedWrites();
        refusedWords();
        refusedStands();
        refusedMeetings();
        refusedSummers();
        refusedLists();
        refusedChildrenAndNeeds();
        for (Case one : CASES) {
            tryOn("fine text", () -> rich(FINE, 1), one);
            tryOn("faulty text", () -> rich(FAULTY, 2), one);
            tryOn("no text", () -> rich("", 0), one);
        }
        refusedWhenFull();
        refusedLay();
        refusedKeepAndBack();
        refusedWhereNothingIsTold();
        CHECKS.end();
    }

    /** A beach with all that can be told, STANDS changed, some KEPT, and another text begun. */
    private static TradeWords rich(String text, int kept) {
        TradeWords x = Checks.laid(TEXT);
        x.set(0, 1, 4);
        x.set(7, 2, 3);
        for (int k = 0; k < kept; k++) {
            x.keep();
            x.set(0, 2, 1 + k);
            x.set(7, k, 5);
        }
        x.wipe();
        Checks.writeEights(x, text);
        return x;
    }

    private static void tryOn(String where, Supplier<TradeWords> maker, Case one) {
        TradeWords touched = maker.get();
        CHECKS.due(where + ": " + one.name, one.call.applyAsInt(touched), one.want);
        CHECKS.due(where + ": " + one.name + " again", one.call.applyAsInt(touched), one.want);
        boolean same = State.of(touched).equals(State.of(maker.get()));
        CHECKS.due(where + ": behind " + one.name + " all is as before", same ? 1 : 0, 1);
    }

    private static void refused(String name, int want, ToIntFunction<TradeWords> call) {
        CASES.add(new Case(name, want, call));
    }

    private static int[] outside(int least, int most) {
        return new int[] {least - 1, most + 1, FAR_OUT[0], FAR_OUT[1]};
    }

    private static void refusedWrites() {
        for (int n : outside(1, 8)) {
            refused("write(" + n + ", o5;)", BAD, x -> x.write(n, 0x6f353bL));
        }
    }

    private static void refusedWords() {
        for (int p : outside(0, 1)) {
            refused("word p " + p, BAD, x -> x.word(p, 0, 0, 0));
            refused("word q " + p, BAD, x -> x.word(0, 0, p, 0));
            refused("far p " + p, BAD, x -> x.far(p, 0, 0, 0));
            refused("far q " + p, BAD, x -> x.far(0, 0, p, 0));
            refused("far p " + p + " without a word", BAD, x -> x.far(p, 5, 0, 5));
            refused("lost " + p, BAD, x -> x.lost(p));
        }
        for (int m : outside(0, 7)) {
            refused("word m " + m, BAD, x -> x.word(0, m, 0, -1));
            refused("far m " + m, BAD, x -> x.far(0, m, 0, 0));
            refused("far n " + m, BAD, x -> x.far(0, 0, 0, m));
            refused("far n " + m + " without a word", BAD, x -> x.far(0, 5, 0, m));
            refused("like " + m, BAD, x -> x.like(m));
        }
        for (int k : outside(-1, 5)) {
            refused("word k " + k, BAD, x -> x.word(0, 0, 0, k));
            refused("word k " + k + " without a word", BAD, x -> x.word(0, 5, 1, k));
        }
        refused("word k behind its end", NONE, x -> x.word(0, 0, 0, 3));
        refused("word k 0 without a word", NONE, x -> x.word(0, 5, 0, 0));
        refused("far, people 1 have none", NO, x -> x.far(0, 3, 1, 3));
        refused("far, people 0 have none", NO, x -> x.far(0, 4, 1, 4));
        refused("far, none", NO, x -> x.far(0, 5, 1, 5));
        for (int m : new int[] {1, 3, 4, 6}) {
            refused("like, not TOLD " + m, NO, x -> x.like(m));
        }
    }

    /** A is 2, B is 5. */
    private static void refusedStands() {
        for (int m : outside(0, 7)) {
            refused("stand m " + m, BAD, x -> x.stand(m, 0));
            refused("set m " + m, BAD, x -> x.set(m, 0, 0));
        }
        for (int what : outside(0, 1)) {
            refused("stand what " + what, BAD, x -> x.stand(0, what));
            refused("stand what " + what + ", not TOLD", BAD, x -> x.stand(3, what));
        }
        for (int a : outside(0, 2)) {
            refused("set x " + a, BAD, x -> x.set(0, a, 2));
            refused("set x " + a + ", not TOLD", BAD, x -> x.set(3, a, 2));
        }
        for (int b : outside(0, 5)) {
            refused("set y " + b, BAD, x -> x.set(0, 2, b));
            refused("set y " + b + ", not TOLD", BAD, x -> x.set(4, 2, b));
        }
        for (int m : new int[] {1, 3, 4, 6}) {
            refused("stand, not TOLD " + m, NO, x -> x.stand(m, 1));
            refused("set, not TOLD " + m, NO, x -> x.set(m, 2, 5));
        }
    }

    private static void refusedMeetings() {
        for (int m : outside(0, 7)) {
            refusedMeetings("m " + m, BAD, m, 5, 0, 50);
        }
        for (int n : outside(0, 200)) {
            refused("million n " + n, BAD, x -> x.million(0, n, 0, 0));
            refused("won n " + n, BAD, x -> x.won(7, n, 0));
            refused("use n " + n, BAD, x -> x.use(0, n));
            refused("traders n " + n, BAD, x -> x.traders(0, n, 0, 50));
            refused("ready n " + n, BAD, x -> x.ready(0, n, 0, 50));
            refused("won n " + n + ", not TOLD", BAD, x -> x.won(3, n, 0));
            refused("use n " + n + ", not TOLD", BAD, x -> x.use(3, n));
        }
        for (int p : outside(0, 1)) {
            refused("won p " + p, BAD, x -> x.won(0, 5, p));
            refused("won p " + p + ", not TOLD", BAD, x -> x.won(4, 5, p));
            refused("traders p " + p, BAD, x -> x.traders(0, 5, p, 50));
            refused("ready p " + p, BAD, x -> x.ready(0, 5, p, 50));
        }
        for (int q : outside(1, 100)) {
            refused("soon q " + q, BAD, x -> x.soon(0, q));
            refused("soon q " + q + ", not TOLD", BAD, x -> x.soon(3, q));
            refused("traders q " + q, BAD, x -> x.traders(0, 5, 0, q));
            refused("traders q " + q + ", not TOLD", BAD, x -> x.traders(3, 5, 0, q));
            refused("ready q " + q, BAD, x -> x.ready(0, 5, 0, q));
            refused("ready q " + q + ", not TOLD", BAD, x -> x.ready(3, 5, 0, q));
        }
        for (int a : outside(0, 2)) {
            refused("million x " + a, BAD, x -> x.million(0, 5, a, 0));
            refused("million x " + a + ", not TOLD", BAD, x -> x.million(3, 5, a, 0));
        }
        for (int b : outside(0, 5)) {
            refused("million y " + b, BAD, x -> x.million(0, 5, 0, b));
            refused("million y " + b + ", not TOLD", BAD, x -> x.million(3, 5, 0, b));
        }
        for (int m : new int[] {1, 3, 4, 6}) {
            refusedMeetings("not TOLD " + m, NO, m, 5, 0, 50);
        }
        refused("soon, none", NONE, x -> x.soon(0, 100));
        refused("traders, none", NONE, x -> x.traders(0, 0, 0, 1));
        refused("ready, none", NONE, x -> x.ready(0, 0, 0, 1));
    }

    private static void refusedMeetings(String why, int want, int m, int n, int p, int q) {
        refused("million " + why, want, x -> x.million(m, n, 0, 0));
        refused("won " + why, want, x -> x.won(m, n, p));
        refused("soon " + why, want, x -> x.soon(m, q));
        refused("use " + why, want, x -> x.use(m, n));
        refused("traders " + why, want, x -> x.traders(m, n, p, q));
        refused("ready " + why, want, x -> x.ready(m, n, p, q));
    }

    private static void refusedSummers() {
        for (int z : outside(0, 9999)) {
            refused("summer z " + z, BAD, x -> x.summer(z, 50));
        }
        for (int n : outside(1, 99)) {
            refused("summer n " + n, BAD, x -> x.summer(17, n));
        }
        for (int p : outside(0, 1)) {
            refused("tongue " + p, BAD, x -> x.tongue(p));
        }
    }

    private static void refusedLists() {
        for (int ear : outside(0, 2)) {
            refused("from ear " + ear, BAD, x -> x.from(ear, 0));
            refused("chance ear " + ear, BAD, x -> x.chance(ear, 0, 0));
        }
        for (int m : outside(0, 7)) {
            refused("from m " + m, BAD, x -> x.from(1, m));
            refused("from m " + m + ", an ear without", BAD, x -> x.from(2, m));
            refused("joined " + m, BAD, x -> x.joined(m));
        }
        for (int p : outside(0, 1)) {
            refused("chance p " + p, BAD, x -> x.chance(1, p, 0));
            refused("chance what " + p, BAD, x -> x.chance(1, 0, p));
        }
        refused("from, it wrote none", NO, x -> x.from(0, 0));
        refused("from, it wrote none, nor is it TOLD", NO, x -> x.from(2, 5));
        refused("from, like none", NONE, x -> x.from(1, 0));
        refused("joined, none", NONE, x -> x.joined(5));
    }

    private static void refusedChildrenAndNeeds() {
        for (int s : outside(0, 1000)) {
            refused("children s " + s, BAD, x -> x.children(s, 2, 3));
            refused("even s " + s, BAD, x -> x.even(s, 2));
        }
        for (int k : outside(1, 3)) {
            refused("children k " + k, BAD, x -> x.children(400, k, 3));
            refused("even k " + k, BAD, x -> x.even(400, k));
        }
        for (int g : outside(0, 20)) {
            refused("children g " + g, BAD, x -> x.children(400, 2, g));
        }
        for (int what : outside(0, 1)) {
            refused("fewest " + what, BAD, x -> x.fewest(what));
        }
        for (int what : outside(0, 6)) {
            refused("count " + what, BAD, x -> x.count(what));
        }
        refused("even, none", NONE, x -> x.even(500, 3));
    }

    /** Each n that no longer goes in, to the last byte; what is there stays, byte by byte. */
    private static void refusedWhenFull() {
        for (int n = 1; n <= 8; n++) {
            int many = n;
            String nearly = "o5;".repeat(160) + "w0,2,abcdef;" + "k1,1;g9;".substring(0, 8 - n + 1);
            Case one = new Case("write of " + n + " to " + nearly.length(), FULL, x -> x.write(many, 0x3b3b3b3b3b3b3b3bL));
            tryOn("nearly full", () -> rich(nearly, 1), one);
            Case bad = new Case("write of 9 to " + nearly.length(), BAD, x -> x.write(9, 0));
            tryOn("nearly full", () -> rich(nearly, 1), bad);
            tryOn("full", () -> rich("o5;".repeat(164) + "w0,2,ab;", 2), one);
        }
        tryOn("full", () -> rich("o5;".repeat(164) + "w0,2,ab;", 2), new Case("write of 0", BAD, x -> x.write(0, 0)));
    }

    private static void refusedLay() {
        Case lay = new Case("lay() of a FAULT", NO, TradeWords::lay);
        for (String text : new String[] {FAULTY, "x", "w0,0,a;w1,0,b", ";", TEXT + "u", "u0;".repeat(7), "j0,1,2;".repeat(9)}) {
            for (int kept = 0; kept <= 2; kept++) {
                int many = kept;
                tryOn(text, () -> rich(text, many), lay);
            }
        }
    }

    private static void refusedKeepAndBack() {
        Case keep = new Case("keep() of a third", FULL, TradeWords::keep);
        tryOn("two KEPT", () -> rich(FINE, 2), keep);
        Case back = new Case("back() of none", NO, TradeWords::back);
        tryOn("none KEPT", () -> rich(FINE, 0), back);
        tryOn("a new object", TradeWords::new, back);
        tryOn("one KEPT, taken back", () -> {
            TradeWords x = rich(FINE, 1);
            x.back();
            x.set(0, 0, 5);
            return x;
        }, back);
    }

    /** On a new object every MEANING is refused, whatever the other numbers are, as long as they can be told. */
    private static void refusedWhereNothingIsTold() {
        for (int m = 0; m < 8; m++) {
            int one = m;
            Case[] no = {new Case("far", NO, x -> x.far(0, one, 0, one)), new Case("like", NO, x -> x.like(one)),
                new Case("stand", NO, x -> x.stand(one, 1)), new Case("set", NO, x -> x.set(one, 4, 4)),
                new Case("million", NO, x -> x.million(one, 200, 4, 4)), new Case("won", NO, x -> x.won(one, 200, 1)),
                new Case("soon", NO, x -> x.soon(one, 100)), new Case("use", NO, x -> x.use(one, 200)),
                new Case("traders", NO, x -> x.traders(one, 200, 1, 100)),
                new Case("ready", NO, x -> x.ready(one, 200, 1, 100)), new Case("from", NO, x -> x.from(2, one)),
                new Case("joined", NONE, x -> x.joined(one)), new Case("word", NONE, x -> x.word(1, one, 0, 5)),
                new Case("set x 5", BAD, x -> x.set(one, 5, 4)), new Case("set y 5", BAD, x -> x.set(one, 4, 5)),
                new Case("million x 5", BAD, x -> x.million(one, 0, 5, 4)),
                new Case("million y 5", BAD, x -> x.million(one, 0, 4, 5))};
            for (Case each : no) {
                tryOn("nothing told, MEANING " + m, TradeWords::new, each);
            }
        }
    }
}
