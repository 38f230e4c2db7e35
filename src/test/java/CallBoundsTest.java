import java.util.Arrays;
import java.util.LinkedHashMap;
import java.util.Map;

/**
 * The bounds of each call's numbers, written down here from the document: all joinings of the first outside, the last
 * inside on either side. BAD is answered if and only if one of them is outside; else what the model answers.
 */
public final class CallBoundsTest {
    private static final Checks CHECKS = new Checks();
    private static final int ALL_LEAST = 0b01010101;
    /** Outside of all bounds, some of them inside if only their low bits were looked at. */
    private static final int[] FAR_OUT = {Integer.MIN_VALUE, -65535, -10239, 10241, 65537, 1 << 20, Integer.MAX_VALUE};
    private static final int[] PEOPLE = {0, 1}, MEANING = {0, 7}, EAR = {0, 2}, WHAT = {0, 1}, MEETINGS = {0, 200},
        HUNDREDTHS = {1, 100}, SOUND = {-1, 5}, OF_THOUSAND = {0, 1000}, BENT = {1, 3}, GENERATIONS = {0, 20};

    /** MEANINGS at both ends of the row are TOLD, or one alone, or none. */
    private static final String[] TEXTS = {"", "w0,0,abc;w1,0,abcdef;w0,7,p;w1,7,a;n2,5;k10,3;o7;e0,0,abc;e2,7,a;u07;j0,1,2;",
        "w0,0,a;w1,0,b;w0,7,a;w1,7,a;n8,1;k1,9;o1;e2,0,b;e0,7,ap;g99;", "w0,7,ab;w1,7,cd;w0,0,p;n1,8;s1,cd;rac;rbd;e2,0,p;g1;"};
    private static final int[][] TRADERS = {{4, 4}, {2, 5}, {8, 1}, {1, 8}};

    private CallBoundsTest() {
    }

    public static void main(String[] args) throws ReflectiveOperationException {
        for (int k = 0; k < TEXTS.length; k++) {
            for (Map.Entry<String, int[][]> call : bounds(TRADERS[k][0], TRADERS[k][1]).entrySet()) {
                tryAll(TEXTS[k], call.getKey(), call.getValue());
            }
            boundsOfWrite(TEXTS[k]);
        }
        CHECKS.end();
    }

    private static Map<String, int[][]> bounds(int a, int b) {
        int[] x = {0, a};
        int[] y = {0, b};
        Map<String, int[][]> all = new LinkedHashMap<>();
        all.put("word", new int[][] {PEOPLE, MEANING, PEOPLE, SOUND});
        all.put("far", new int[][] {PEOPLE, MEANING, PEOPLE, MEANING});
        all.put("like", new int[][] {MEANING});
        all.put("stand", new int[][] {MEANING, WHAT});
        all.put("set", new int[][] {MEANING, x, y});
        all.put("million", new int[][] {MEANING, MEETINGS, x, y});
        all.put("won", new int[][] {MEANING, MEETINGS, PEOPLE});
        all.put("soon", new int[][] {MEANING, HUNDREDTHS});
        all.put("use", new int[][] {MEANING, MEETINGS});
        all.put("traders", new int[][] {MEANING, MEETINGS, PEOPLE, HUNDREDTHS});
        all.put("ready", new int[][] {MEANING, MEETINGS, PEOPLE, HUNDREDTHS});
        all.put("summer", new int[][] {{0, 9999}, {1, 99}});
        all.put("tongue", new int[][] {PEOPLE});
        all.put("from", new int[][] {EAR, MEANING});
        all.put("chance", new int[][] {EAR, PEOPLE, WHAT});
        all.put("joined", new int[][] {MEANING});
        all.put("children", new int[][] {OF_THOUSAND, BENT, GENERATIONS});
        all.put("even", new int[][] {OF_THOUSAND, BENT});
        all.put("fewest", new int[][] {WHAT});
        all.put("lost", new int[][] {PEOPLE});
        all.put("count", new int[][] {{0, 6}});
        return all;
    }

    private static void tryAll(String text, String name, int[][] bounds) throws ReflectiveOperationException {
        // 4 to the 4-th calls at most: one object answers them all
        TradeWords x = Checks.laid(text);
        Model model = modelOf(text);
        for (int k = 0; k < 1 << 2 * bounds.length; k++) {
            Object[] numbers = numbers(bounds, k);
            int answer = answer(TradeWords.class, x, name, numbers);
            String told = text + " " + name + Arrays.toString(numbers);
            CHECKS.due(told, answer, answer(Model.class, model, name, numbers));
            CHECKS.due(told + " is BAD or not", answer == TradeWords.BAD ? 1 : 0, isInside(bounds, numbers) ? 0 : 1);
        }
        for (int place = 0; place < bounds.length; place++) {
            for (int far : FAR_OUT) {
                Object[] numbers = numbers(bounds, ALL_LEAST);
                numbers[place] = far;
                int answer = answer(TradeWords.class, Checks.laid(text), name, numbers);
                CHECKS.due(text + " " + name + Arrays.toString(numbers), answer, TradeWords.BAD);
            }
        }
    }

    private static int answer(Class<?> type, Object it, String name, Object[] numbers) throws ReflectiveOperationException {
        Class<?>[] types = new Class<?>[numbers.length];
        Arrays.fill(types, int.class);
        return (int) type.getDeclaredMethod(name, types).invoke(it, numbers);
    }

    /** For each number two bits of k choose: the first below, the least, the most, the first above. */
    private static Object[] numbers(int[][] bounds, int k) {
        Object[] numbers = new Object[bounds.length];
        for (int place = 0; place < bounds.length; place++) {
            int least = bounds[place][0];
            int most = bounds[place][1];
            numbers[place] = new int[] {least - 1, least, most, most + 1}[k >> 2 * place & 3];
        }
        return numbers;
    }

    private static boolean isInside(int[][] bounds, Object[] numbers) {
        for (int place = 0; place < bounds.length; place++) {
            if ((int) numbers[place] < bounds[place][0] || (int) numbers[place] > bounds[place][1]) {
                return false;
            }
        }
        return true;
    }

    private static Model modelOf(String text) {
        Model model = new Model();
        for (int k = 0; k < text.length(); k++) {
            model.write(1, text.charAt(k));
        }
        model.lay();
        return model;
    }

    /** "n bytes (1 to 8) of v, the highest first". */
    private static void boundsOfWrite(String text) {
        long[] values = {0, -1, 0x6f393b6f303b6f35L, Long.MIN_VALUE, Long.MAX_VALUE, 0x80ff7f0001020304L};
        for (int n = -1; n <= 10; n++) {
            for (long v : values) {
                TradeWords x = Checks.laid(text);
                Model model = modelOf(text);
                String told = text + " write(" + n + ", " + v + ")";
                int before = x.count(1);
                CHECKS.due(told, x.write(n, v), n < 1 || n > 8 ? TradeWords.BAD : before + n);
                model.write(n, v);
                CHECKS.due(told + ": count(1)", x.count(1), model.count(1));
                CHECKS.due(told + ": fault()", x.fault(), model.fault());
                CHECKS.due(told + ": lay()", x.lay(), model.lay());
            }
        }
        for (int n = 1; n <= 8; n++) {
            // the n lowest bytes are written, those above them are not
            String item = "w0,3,kp;".substring(0, 8 - n);
            TradeWords x = new TradeWords();
            Checks.write(x, item);
            x.write(n, Checks.value("w0,3,kp;"));
            CHECKS.due("write of the last " + n, x.fault(), TradeWords.NONE);
            CHECKS.due("lay()", x.lay(), 0);
            CHECKS.due("its SOUNDS", 16 * x.word(0, 3, 0, 0) + x.word(0, 3, 0, 1), 16 * 10 + 15);
            TradeWords y = new TradeWords();
            Checks.write(y, item);
            y.write(n, Checks.value("w0,3,kp;") | (n == 8 ? 0 : -1L << 8 * n));
            CHECKS.due("what is above the last " + n + " does not matter", y.fault(), TradeWords.NONE);
        }
    }
}
