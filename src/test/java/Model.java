import java.math.BigInteger;
import java.util.ArrayDeque;
import java.util.ArrayList;
import java.util.Deque;
import java.util.HashMap;
import java.util.List;
import java.util.Map;
import java.util.TreeMap;
import java.util.regex.Matcher;
import java.util.regex.Pattern;

/** The document once more, written in another way (texts, patterns, maps), to be compared with TradeWords. */
final class Model {
    static final int BAD = -1, NO = -2, FULL = -3, NONE = -4;
    private static final String ALL = "abcdefghijklmnop";
    private static final Pattern ITEM = Pattern.compile(
        "\\G(?:w(?<p>0?[01]),(?<m>0?[0-7]),(?<word>[a-p]{1,6})"
        + "|s(?<sp>0?[01]),(?<sounds>(?=[a-p])a?b?c?d?e?f?g?h?i?j?k?l?m?n?o?p?)"
        + "|r(?<x>[a-p])(?!\\k<x>)(?<y>[a-p])"
        + "|n(?<na>0?[1-8]),(?<nb>0?[1-8])"
        + "|k(?<ka>0?[0-9]|10),(?<kb>0?[0-9]|10)"
        + "|o(?<o>0?[0-9]|10)"
        + "|g(?<g>0?[1-9]|[1-9][0-9])"
        + "|j(?<jm>0?[0-7]),(?<ja>0?[0-7]),(?<jb>0?[0-7])"
        + "|u(?<u>(?=[0-7])0?1?2?3?4?5?6?7?)"
        + "|e(?<l>0?[0-2]),(?<em>0?[0-7]),(?<heard>[a-p]{1,6}));");

    private static final class Told {
        final Map<Integer, String> words = new HashMap<>();
        final Map<Integer, String> heard = new HashMap<>();
        final String[] sounds = {ALL, ALL};
        final Map<Character, Character> instead = new HashMap<>();
        final int[] traders = {4, 4};
        final int[] takes = {5, 5};
        int speaks = 5;
        int alike = 70;
        final List<int[]> joined = new ArrayList<>();
        final List<String> needs = new ArrayList<>();

        String word(int p, int m) {
            return words.get(10 * p + m);
        }
    }

    private final StringBuilder text = new StringBuilder();
    private Told told = new Told();
    private Map<Integer, int[]> stands = fresh();
    private final Deque<Map<Integer, int[]>> kept = new ArrayDeque<>();

    private static Map<Integer, int[]> fresh() {
        Map<Integer, int[]> all = new HashMap<>();
        for (int m = 0; m < 8; m++) {
            all.put(m, new int[] {0, 0});
        }
        return all;
    }

    private static Map<Integer, int[]> copy(Map<Integer, int[]> stands) {
        Map<Integer, int[]> all = new HashMap<>();
        stands.forEach((m, stand) -> all.put(m, stand.clone()));
        return all;
    }

    private static boolean out(int value, int least, int most) {
        return value < least || value > most;
    }

    int write(int n, long v) {
        if (out(n, 1, 8)) return BAD;
        if (text.length() + n > 500) return FULL;
        byte[] all = BigInteger.valueOf(v).and(BigInteger.ONE.shiftLeft(64).subtract(BigInteger.ONE))
            .add(BigInteger.ONE.shiftLeft(64)).toByteArray();
        for (int k = 9 - n; k <= 8; k++) text.append((char) (all[k] & 255));
        return text.length();
    }

    int wipe() {
        int was = text.length();
        text.setLength(0);
        return was;
    }

    /** Reads what is told into the given one; the first fault or NONE. */
    private int read(Told into) {
        Matcher matcher = ITEM.matcher(text);
        int place = 0;
        while (place < text.length()) {
            if (!matcher.find() || matcher.start() != place || !take(into, matcher)) return place;
            place = matcher.end();
        }
        return NONE;
    }

    private static int number(Matcher matcher, String name) {
        return Integer.parseInt(matcher.group(name));
    }

    private static boolean take(Told into, Matcher item) {
        switch (item.group().charAt(0)) {
            case 'w': into.words.put(10 * number(item, "p") + number(item, "m"), item.group("word")); break;
            case 's': into.sounds[number(item, "sp")] = item.group("sounds"); break;
            case 'r': into.instead.put(item.group("x").charAt(0), item.group("y").charAt(0)); break;
            case 'n': into.traders[0] = number(item, "na"); into.traders[1] = number(item, "nb"); break;
            case 'k': into.takes[0] = number(item, "ka"); into.takes[1] = number(item, "kb"); break;
            case 'o': into.speaks = number(item, "o"); break;
            case 'g': into.alike = number(item, "g"); break;
            case 'j':
                int[] join = {number(item, "jm"), number(item, "ja"), number(item, "jb")};
                if (join[0] == join[1] || join[1] == join[2] || join[0] == join[2]) return false;
                into.joined.add(join);
                return into.joined.size() <= 8;
            case 'u':
                into.needs.add(item.group("u"));
                return into.needs.size() <= 6;
            default: into.heard.put(10 * number(item, "l") + number(item, "em"), item.group("heard"));
        }
        return true;
    }

    int fault() {
        return read(new Told());
    }

    int lay() {
        Told fresh = new Told();
        if (read(fresh) != NONE) return NO;
        told = fresh;
        stands = fresh();
        kept.clear();
        return count(0);
    }

    private boolean told(int m) {
        return told.word(0, m) != null && told.word(1, m) != null;
    }

    private char mouth(int p, char sound) {
        if (told.sounds[p].indexOf(sound) >= 0) return sound;
        Character other = told.instead.get(sound);
        return other != null && told.sounds[p].indexOf(other) >= 0 ? other : '-';
    }

    private String said(String word, int p) {
        StringBuilder all = new StringBuilder();
        for (char sound : word.toCharArray()) all.append(mouth(p, sound));
        return all.toString().replace("-", "");
    }

    static int apart(String one, String other) {
        if (one.isEmpty() || other.isEmpty()) return one.length() + other.length();
        String a = one.substring(1);
        String b = other.substring(1);
        if (one.charAt(0) == other.charAt(0)) return apart(a, b);
        return 1 + Math.min(apart(a, b), Math.min(apart(a, other), apart(one, b)));
    }

    static int alike(String one, String other) {
        int longer = Math.max(one.length(), other.length());
        return longer == 0 ? 100 : 100 - 100 * apart(one, other) / longer;
    }

    int word(int p, int m, int q, int k) {
        if (out(p, 0, 1) || out(m, 0, 7) || out(q, 0, 1) || out(k, -1, 5)) return BAD;
        String word = told.word(p, m) == null ? "" : told.word(p, m);
        if (p != q) word = said(word, q);
        if (k == -1) return word.length();
        return k < word.length() ? ALL.indexOf(word.charAt(k)) : NONE;
    }

    int far(int p, int m, int q, int n) {
        if (out(p, 0, 1) || out(m, 0, 7) || out(q, 0, 1) || out(n, 0, 7)) return BAD;
        if (told.word(p, m) == null || told.word(q, n) == null) return NO;
        return apart(told.word(p, m), told.word(q, n));
    }

    int like(int m) {
        if (out(m, 0, 7)) return BAD;
        return told(m) ? alike(said(told.word(0, m), 1), told.word(1, m)) : NO;
    }

    private boolean isAlike(int m) {
        return like(m) >= told.alike;
    }

    int stand(int m, int what) {
        if (out(m, 0, 7) || out(what, 0, 1)) return BAD;
        return told(m) ? stands.get(m)[what] : NO;
    }

    int set(int m, int x, int y) {
        if (out(m, 0, 7) || out(x, 0, told.traders[0]) || out(y, 0, told.traders[1])) return BAD;
        if (!told(m)) return NO;
        stands.put(m, new int[] {x, y});
        return 1;
    }

    /** The million behind n meetings, by stand (16 x and y), each meeting told person by person. */
    private Map<Integer, Long> parted(int m, int n, int[] crowd, int[] takes, int[] stand) {
        Map<Integer, Long> all = new TreeMap<>();
        all.put(16 * stand[0] + stand[1], 1000000L);
        for (int meeting = 0; meeting < n && !isAlike(m); meeting++) {
            Map<Integer, Long> then = new TreeMap<>();
            for (Map.Entry<Integer, Long> one : all.entrySet()) {
                int x = one.getKey() / 16;
                int y = one.getKey() % 16;
                long stay = one.getValue();
                stay -= go(then, x + 1, y, one.getValue(), (10 - told.speaks) * (crowd[0] - x) * (crowd[1] - y) * takes[0], crowd);
                stay -= go(then, x - 1, y, one.getValue(), (10 - told.speaks) * x * y * takes[0], crowd);
                stay -= go(then, x, y + 1, one.getValue(), told.speaks * (crowd[0] - x) * (crowd[1] - y) * takes[1], crowd);
                stay -= go(then, x, y - 1, one.getValue(), told.speaks * x * y * takes[1], crowd);
                then.merge(one.getKey(), stay, Long::sum);
            }
            all = then;
        }
        return all;
    }

    private static long go(Map<Integer, Long> then, int x, int y, long many, long parts, int[] crowd) {
        BigInteger gone = BigInteger.valueOf(many).multiply(BigInteger.valueOf(parts))
            .divide(BigInteger.valueOf(100L * crowd[0] * crowd[1]));
        if (gone.signum() == 0) return 0;
        then.merge(16 * x + y, gone.longValueExact(), Long::sum);
        return gone.longValueExact();
    }

    private Map<Integer, Long> behind(int m, int n) {
        return parted(m, n, told.traders, told.takes, stands.get(m));
    }

    private static long wins(Map<Integer, Long> all, int p, int[] crowd) {
        return all.getOrDefault(p == 0 ? crowd[1] : 16 * crowd[0], 0L);
    }

    int million(int m, int n, int x, int y) {
        if (out(m, 0, 7) || out(n, 0, 200) || out(x, 0, told.traders[0]) || out(y, 0, told.traders[1])) return BAD;
        if (!told(m)) return NO;
        return behind(m, n).getOrDefault(16 * x + y, 0L).intValue();
    }

    int won(int m, int n, int p) {
        if (out(m, 0, 7) || out(n, 0, 200) || out(p, 0, 1)) return BAD;
        if (!told(m)) return NO;
        return (int) wins(behind(m, n), p, told.traders);
    }

    int soon(int m, int q) {
        if (out(m, 0, 7) || out(q, 1, 100)) return BAD;
        if (!told(m)) return NO;
        Map<Integer, Long> before = null;
        for (int n = 0; n <= 200; n++) {
            Map<Integer, Long> all = behind(m, n);
            if (wins(all, 0, told.traders) + wins(all, 1, told.traders) >= q * 10000L) return n;
            if (all.equals(before)) return NONE;
            before = all;
        }
        return NONE;
    }

    int use(int m, int n) {
        if (out(m, 0, 7) || out(n, 0, 200)) return BAD;
        if (!told(m)) return NO;
        long sum = 0;
        for (Map.Entry<Integer, Long> one : behind(m, n).entrySet()) {
            sum += one.getValue() * (told.traders[0] - one.getKey() / 16 + one.getKey() % 16);
        }
        return (int) (sum / 1000);
    }

    int traders(int m, int n, int p, int q) {
        if (out(m, 0, 7) || out(n, 0, 200) || out(p, 0, 1) || out(q, 1, 100)) return BAD;
        if (!told(m)) return NO;
        for (int t = 1; t <= 8; t++) {
            int[] crowd = {t, t};
            if (wins(parted(m, n, crowd, told.takes, new int[] {0, 0}), p, crowd) >= q * 10000L) return t;
        }
        return NONE;
    }

    int ready(int m, int n, int p, int q) {
        if (out(m, 0, 7) || out(n, 0, 200) || out(p, 0, 1) || out(q, 1, 100)) return BAD;
        if (!told(m)) return NO;
        for (int r = 0; r <= 10; r++) {
            int[] takes = {r, r};
            if (wins(parted(m, n, told.traders, takes, stands.get(m)), p, told.traders) >= q * 10000L) return r;
        }
        return NONE;
    }

    private static int draw(int z, int t, int k, int m) {
        BigInteger x = BigInteger.valueOf(7919L * z + 6151L * t + 3571L * k + 2011L * m + 1);
        return x.multiply(x).mod(BigInteger.valueOf(65521)).intValue();
    }

    int summer(int z, int n) {
        if (out(z, 0, 9999) || out(n, 1, 99)) return BAD;
        for (int m = 0; m < 8; m++) {
            for (int t = 0; told(m) && t < n; t++) {
                int[] stand = stands.get(m);
                boolean[] changed = new boolean[2];
                int[] says = new int[2];
                for (int p = 0; p < 2; p++) {
                    changed[p] = draw(z, t, 2 + p, m) % told.traders[p] < stand[p];
                    says[p] = changed[p] ? 1 - p : p;
                }
                int speaker = draw(z, t, 1, m) % 10 < told.speaks ? 0 : 1;
                int hearer = 1 - speaker;
                boolean takes = draw(z, t, 4, m) % 10 < told.takes[hearer];
                if (says[0] == says[1] || isAlike(m) || !takes) continue;
                // he says now what the speaker says: the other's word, or his own again
                stand[hearer] += says[speaker] == hearer ? -1 : 1;
            }
        }
        return Integer.bitCount(tongue(0) | tongue(1));
    }

    int tongue(int p) {
        if (out(p, 0, 1)) return BAD;
        int bits = 0;
        for (int m = 0; m < 8; m++) {
            int[] stand = stands.get(m);
            int sayZero = told.traders[0] - stand[0] + stand[1];
            int all = told.traders[0] + told.traders[1];
            if (told(m) && (isAlike(m) || sayZero == (p == 0 ? all : 0))) bits += 1 << m;
        }
        return bits;
    }

    int from(int ear, int m) {
        if (out(ear, 0, 2) || out(m, 0, 7)) return BAD;
        String heard = told.heard.get(10 * ear + m);
        if (heard == null) return NO;
        int best = NONE;
        int most = told.alike - 1;
        for (int p = 0; p < 2; p++) {
            if (told.word(p, m) != null && alike(heard, told.word(p, m)) > most) {
                most = alike(heard, told.word(p, m));
                best = p;
            }
        }
        return best;
    }

    int chance(int ear, int p, int what) {
        if (out(ear, 0, 2) || out(p, 0, 1) || out(what, 0, 1)) return BAD;
        int[] many = new int[2];
        told.heard.forEach((place, heard) -> told.words.forEach((other, word) -> {
            if (place / 10 == ear && other / 10 == p && place % 10 != other % 10) {
                many[1]++;
                if (alike(heard, word) >= told.alike) many[0]++;
            }
        }));
        return many[what];
    }

    int joined(int m) {
        if (out(m, 0, 7)) return BAD;
        Map<Integer, Integer> sums = new TreeMap<>();
        for (int ear = 2; ear >= 0; ear--) {
            String heard = told.heard.get(10 * ear + m);
            if (heard == null) continue;
            int sum = 0;
            for (int other = 0; other < 3; other++) {
                if (told.heard.containsKey(10 * other + m)) sum += apart(heard, told.heard.get(10 * other + m));
            }
            sums.put(sum, ear);
        }
        return sums.isEmpty() ? NONE : sums.values().iterator().next();
    }

    int children(int s, int k, int g) {
        if (out(s, 0, 1000) || out(k, 1, 3) || out(g, 0, 20)) return BAD;
        if (g == 0) return s;
        BigInteger yes = BigInteger.valueOf(s).pow(k);
        BigInteger not = BigInteger.valueOf(1000 - s).pow(k);
        return children(yes.multiply(BigInteger.valueOf(1000)).divide(yes.add(not)).intValue(), k, g - 1);
    }

    int even(int s, int k) {
        if (out(s, 0, 1000) || out(k, 1, 3)) return BAD;
        for (int g = 0; g <= 20; g++) {
            int say = children(s, k, g);
            if (say >= 950 || say <= 50) return g;
        }
        return NONE;
    }

    int fewest(int what) {
        if (out(what, 0, 1)) return BAD;
        for (int size = 0; size <= 8; size++) {
            for (int set = 0; set < 256; set++) {
                if (Integer.bitCount(set) == size && allSaid(set)) return what == 0 ? set : size;
            }
        }
        return NONE;
    }

    private boolean allSaid(int set) {
        for (String need : told.needs) {
            for (char figure : need.toCharArray()) {
                int m = figure - '0';
                boolean can = (set & 1 << m) != 0;
                for (int[] join : told.joined) {
                    can |= join[0] == m && (set & 1 << join[1]) != 0 && (set & 1 << join[2]) != 0;
                }
                if (!can) return false;
            }
        }
        return true;
    }

    int both() {
        int bits = 0;
        for (char sound : told.sounds[0].toCharArray()) {
            if (told.sounds[1].indexOf(sound) >= 0) bits += 1 << ALL.indexOf(sound);
        }
        return bits;
    }

    int lost(int p) {
        if (out(p, 0, 1)) return BAD;
        int bits = 0;
        for (int m = 0; m < 8; m++) {
            String word = told.word(p, m) == null ? "" : told.word(p, m);
            for (char sound : word.toCharArray()) {
                if (mouth(1 - p, sound) == '-') bits |= 1 << ALL.indexOf(sound);
            }
        }
        return bits;
    }

    int keep() {
        if (kept.size() == 2) return FULL;
        kept.push(copy(stands));
        return kept.size();
    }

    int back() {
        if (kept.isEmpty()) return NO;
        stands = kept.pop();
        return kept.size();
    }

    int count(int what) {
        int toldOnes = 0;
        for (int m = 0; m < 8; m++) toldOnes += told(m) ? 1 : 0;
        int[] all = {toldOnes, text.length(), told.needs.size(), told.joined.size(), kept.size(), told.traders[0], told.traders[1]};
        return out(what, 0, 6) ? BAD : all[what];
    }
}
