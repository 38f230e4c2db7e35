/** Counts answers that are as due and prints those that are not. */
final class Checks {
    private int right;
    private int wrong;

    void due(String call, long got, long want) {
        if (got == want) {
            right++;
        } else {
            wrong++;
            System.out.println(call + " answered " + got + ", due is " + want);
        }
    }

    void end() {
        System.out.println(right + " answers as due, " + wrong + " not");
        if (wrong != 0) {
            System.exit(1);
        }
    }

    /** Writes a text a byte at a time; the last call's answer. */
    static int write(TradeWords x, String text) {
        int answer = 0;
        for (int k = 0; k < text.length(); k++) {
            answer = x.write(1, text.charAt(k));
        }
        return answer;
    }

    /** A text written eight bytes at a time, so that a run stays short. */
    static int writeEights(TradeWords x, String text) {
        int answer = 0;
        for (int k = 0; k < text.length(); k += 8) {
            String part = text.substring(k, Math.min(text.length(), k + 8));
            answer = x.write(part.length(), value(part));
        }
        return answer;
    }

    static long value(String part) {
        long v = 0;
        for (int k = 0; k < part.length(); k++) {
            v = v << 8 | part.charAt(k);
        }
        return v;
    }

    /** A new object with this text laid. */
    static TradeWords laid(String text) {
        TradeWords x = new TradeWords();
        writeEights(x, text);
        x.lay();
        return x;
    }

    /** The fault of a text alone. */
    static int faultOf(String text) {
        TradeWords x = new TradeWords();
        writeEights(x, text);
        return x.fault();
    }
}
