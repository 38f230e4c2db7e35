import java.util.Random;

/** Runs of drawn calls, with drawn texts, answered by TradeWords and by the model alike. */
public final class RandomRunsTest {
    private static final int RUNS = 1500;
    private static final int SHORT = 200;
    /** An object answers 512 calls; what it answers later is free. */
    private static final int LONG = 512;
    private static final int[] EDGES = {Integer.MIN_VALUE, -5, -2, -1, 0, 1, 2, 3, 5, 6, 7, 8, 9, 10, 50, 99, 100, 101,
        199, 200, 201, 950, 1000, 1001, 9999, 10000, Integer.MAX_VALUE};

    private final Random random;
    private final Checks checks;
    private final TradeWords x = new TradeWords();
    private final Model model = new Model();
    private final String run;
    private final int most;
    private int calls;

    private RandomRunsTest(int seed, Checks checks) {
        this.random = new Random(seed);
        this.checks = checks;
        this.run = "run " + seed + ": ";
        this.most = seed % 3 == 0 ? LONG : SHORT;
    }

    public static void main(String[] args) {
        Checks checks = new Checks();
        for (int seed = 0; seed < RUNS; seed++) {
            new RandomRunsTest(seed, checks).go();
        }
        checks.end();
    }

    private void go() {
        for (int k = 0; calls < most; k++) {
            if (k % 60 == 0) {
                tellText();
            } else {
                call();
            }
        }
    }

    private void tellText() {
        due("wipe()", x.wipe(), model.wipe());
        StringBuilder text = new StringBuilder();
        int items = random.nextInt(45);
        boolean faulty = random.nextInt(5) == 0;
        for (int k = 0; k < items; k++) {
            text.append(item());
        }
        for (int k = 0; faulty && text.length() > 0 && k < 2; k++) {
            spoil(text);
        }
        for (int k = 0; k < text.length() && calls < most - 2; k += 8) {
            String part = text.substring(k, Math.min(text.length(), k + 8));
            long v = Checks.value(part);
            due("write(" + part + ")", x.write(part.length(), v), model.write(part.length(), v));
        }
        if (calls < most - 1) {
            due("fault() of " + text, x.fault(), model.fault());
            due("lay() of " + text, x.lay(), model.lay());
        }
    }

    private void spoil(StringBuilder text) {
        int place = random.nextInt(text.length());
        switch (random.nextInt(3)) {
            case 0: text.deleteCharAt(place); break;
            case 1: text.setCharAt(place, sign()); break;
            default: text.insert(place, sign());
        }
    }

    private char sign() {
        String signs = "wsrnkogjue,;0123456789abpqz";
        int k = random.nextInt(signs.length() + 1);
        return k == signs.length() ? (char) random.nextInt(256) : signs.charAt(k);
    }

    private String item() {
        switch (random.nextInt(22)) {
            case 0: return "s" + random.nextInt(2) + "," + rising("abcdefghijklmnop") + ";";
            case 1: case 2: return "r" + exchange() + ";";
            case 3: return "n" + (1 + random.nextInt(8)) + "," + (1 + random.nextInt(8)) + ";";
            case 4: return "k" + random.nextInt(11) + "," + random.nextInt(11) + ";";
            case 5: return "o" + random.nextInt(11) + ";";
            case 6: return "g" + (1 + random.nextInt(99)) + ";";
            case 7: case 8: return "j" + unlike() + ";";
            case 9: return "u" + rising("01234567") + ";";
            case 10: case 11: case 12: return "e" + random.nextInt(3) + "," + random.nextInt(8) + "," + sounds() + ";";
            case 13: return "w0" + random.nextInt(2) + ",0" + random.nextInt(8) + "," + sounds() + ";";
            default: return "w" + random.nextInt(2) + "," + random.nextInt(8) + "," + sounds() + ";";
        }
    }

    private String rising(String from) {
        StringBuilder all = new StringBuilder();
        for (char sign : from.toCharArray()) {
            if (random.nextInt(10) < 6) {
                all.append(sign);
            }
        }
        return all.length() == 0 ? from.substring(0, 1) : all.toString();
    }

    private String exchange() {
        int one = random.nextInt(16);
        int other = (one + 1 + random.nextInt(15)) % 16;
        return "" + (char) ('a' + one) + (char) ('a' + other);
    }

    private String unlike() {
        int one = random.nextInt(8);
        int other = (one + 1 + random.nextInt(7)) % 8;
        int third = random.nextInt(8);
        while (third == one || third == other) {
            third = random.nextInt(8);
        }
        return one + "," + other + "," + third;
    }

    /** Few sounds, so that words are often somewhat alike. */
    private String sounds() {
        StringBuilder all = new StringBuilder();
        int many = 1 + random.nextInt(6);
        int kinds = random.nextInt(3) == 0 ? 16 : 3;
        for (int k = 0; k < many; k++) {
            all.append((char) ('a' + random.nextInt(kinds)));
        }
        return all.toString();
    }

    private int in(int least, int most) {
        if (random.nextInt(40) == 0) {
            return EDGES[random.nextInt(EDGES.length)];
        }
        return least + random.nextInt(most - least + 1);
    }

    private void due(String call, long got, long want) {
        calls++;
        checks.due(run + call, got, want);
    }

    private void call() {
        switch (random.nextInt(4)) {
            case 0: beachCall(); break;
            case 1: case 2: meetingCall(); break;
            default: listCall();
        }
    }

    private void beachCall() {
        int p = in(0, 1), m = in(0, 7), q = in(0, 1), n = in(0, 7), k = in(-1, 5);
        switch (random.nextInt(6)) {
            case 0: due("word(" + p + "," + m + "," + q + "," + k + ")", x.word(p, m, q, k), model.word(p, m, q, k)); break;
            case 1: due("far(" + p + "," + m + "," + q + "," + n + ")", x.far(p, m, q, n), model.far(p, m, q, n)); break;
            case 2: due("like(" + m + ")", x.like(m), model.like(m)); break;
            case 3: due("both()", x.both(), model.both()); break;
            case 4: due("lost(" + p + ")", x.lost(p), model.lost(p)); break;
            default:
                int length = in(1, 8);
                long v = random.nextLong();
                due("write(" + length + "," + v + ")", x.write(length, v), model.write(length, v));
        }
    }

    private void meetingCall() {
        int m = in(0, 7), n = in(0, random.nextInt(4) == 0 ? 200 : 30), p = in(0, 1), q = in(1, 100);
        int most = random.nextInt(3) == 0 ? 8 : 4, a = in(0, most), b = in(0, most);
        switch (random.nextInt(12)) {
            case 0: due("stand(" + m + "," + p + ")", x.stand(m, p), model.stand(m, p)); break;
            case 1: case 2: due("set(" + m + "," + a + "," + b + ")", x.set(m, a, b), model.set(m, a, b)); break;
            case 3: due("million(" + m + "," + n + "," + a + "," + b + ")", x.million(m, n, a, b), model.million(m, n, a, b)); break;
            case 4: due("won(" + m + "," + n + "," + p + ")", x.won(m, n, p), model.won(m, n, p)); break;
            case 5:
                if (random.nextInt(8) == 0) due("soon(" + m + "," + q + ")", x.soon(m, q), model.soon(m, q));
                break;
            case 6: due("use(" + m + "," + n + ")", x.use(m, n), model.use(m, n)); break;
            case 7:
                if (random.nextInt(4) == 0) due("traders(" + m + "," + n + "," + p + "," + q + ")", x.traders(m, n, p, q), model.traders(m, n, p, q));
                break;
            case 8:
                if (random.nextInt(4) == 0) due("ready(" + m + "," + n + "," + p + "," + q + ")", x.ready(m, n, p, q), model.ready(m, n, p, q));
                break;
            case 9: case 10:
                int z = in(0, 9999), long_ = in(1, 99);
                due("summer(" + z + "," + long_ + ")", x.summer(z, long_), model.summer(z, long_));
                break;
            default: due("tongue(" + p + ")", x.tongue(p), model.tongue(p));
        }
    }

    private void listCall() {
        int ear = in(0, 2), m = in(0, 7), p = in(0, 1), what = in(0, 1), s = in(0, 1000), k = in(1, 3), g = in(0, 20), of = in(0, 6);
        switch (random.nextInt(10)) {
            case 0: due("from(" + ear + "," + m + ")", x.from(ear, m), model.from(ear, m)); break;
            case 1: due("chance(" + ear + "," + p + "," + what + ")", x.chance(ear, p, what), model.chance(ear, p, what)); break;
            case 2: due("joined(" + m + ")", x.joined(m), model.joined(m)); break;
            case 3: due("children(" + s + "," + k + "," + g + ")", x.children(s, k, g), model.children(s, k, g)); break;
            case 4: due("even(" + s + "," + k + ")", x.even(s, k), model.even(s, k)); break;
            case 5: due("fewest(" + what + ")", x.fewest(what), model.fewest(what)); break;
            case 6: due("keep()", x.keep(), model.keep()); break;
            case 7: due("back()", x.back(), model.back()); break;
            case 8: due("fault()", x.fault(), model.fault()); break;
            default: due("count(" + of + ")", x.count(of), model.count(of));
        }
    }
}
