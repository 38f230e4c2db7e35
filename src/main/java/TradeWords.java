import java.util.Arrays;

/** Words for trade between two peoples on a beach; what each call answers stands in the document. */
public final class TradeWords {
    public static final int BAD = -1, NO = -2, FULL = -3, NONE = -4;

    private static final int PEOPLES = 2;
    private static final int MEANINGS = 8;
    private static final int EARS = 3;
    private static final int SOUNDS = 16;
    private static final int LONGEST_WORD = 6;
    private static final int MOST_BYTES = 500;
    private static final int MOST_TRADERS = 8;
    private static final int MOST_JOINED = 8;
    private static final int MOST_NEEDS = 6;
    private static final int MOST_KEPT = 2;
    private static final int MOST_MEETINGS = 200;
    private static final int MOST_GENERATIONS = 20;
    private static final int TEN = 10;
    private static final long MILLION = 1000000;
    private static final long HUNDREDTH_OF_MILLION = 10000;

    private final Text text = new Text();
    private final Item item = new Item(text);
    private final Stands stands = new Stands();
    private final Crowd crowd = new Crowd();
    private final Measure measure = new Measure();
    private Beach laid = new Beach();
    private Beach tried = new Beach();

    public TradeWords() {
    }

    // ---- beaches

    public int write(int n, long v) {
        if (n < 1 || n > 8) {
            return BAD;
        }
        if (text.length() + n > MOST_BYTES) {
            return FULL;
        }
        for (int k = n - 1; k >= 0; k--) {
            text.append((int) (v >>> (8 * k)) & 255);
        }
        return text.length();
    }

    public int wipe() {
        int was = text.length();
        text.clear();
        return was;
    }

    public int fault() {
        return tryText();
    }

    public int lay() {
        if (tryText() != NONE) {
            return NO;
        }
        Beach old = laid;
        laid = tried;
        tried = old;
        stands.clear();
        return toldMeanings();
    }

    public int word(int p, int m, int q, int k) {
        if (!isPeople(p) || !isMeaning(m) || !isPeople(q) || k < -1 || k >= LONGEST_WORD) {
            return BAD;
        }
        int word = laid.wordOf(p, m);
        if (q != p) {
            word = laid.saidBy(q, word);
        }
        if (k < 0) {
            return Word.length(word);
        }
        return k < Word.length(word) ? Word.soundAt(word, k) : NONE;
    }

    public int far(int p, int m, int q, int n) {
        if (!isPeople(p) || !isMeaning(m) || !isPeople(q) || !isMeaning(n)) {
            return BAD;
        }
        int one = laid.wordOf(p, m);
        int other = laid.wordOf(q, n);
        if (one == Word.EMPTY || other == Word.EMPTY) {
            return NO;
        }
        return measure.apart(one, other);
    }

    public int like(int m) {
        if (!isMeaning(m)) {
            return BAD;
        }
        return laid.isTold(m) ? likeOfMeaning(m) : NO;
    }

    // ---- meetings

    public int stand(int m, int what) {
        if (!isMeaning(m) || !isPeople(what)) {
            return BAD;
        }
        return laid.isTold(m) ? stands.of(m, what) : NO;
    }

    public int set(int m, int x, int y) {
        if (!isMeaning(m) || !isStand(x, y)) {
            return BAD;
        }
        if (!laid.isTold(m)) {
            return NO;
        }
        stands.put(m, x, y);
        return 1;
    }

    public int million(int m, int n, int x, int y) {
        if (!isMeaning(m) || !isMeetings(n) || !isStand(x, y)) {
            return BAD;
        }
        if (!laid.isTold(m)) {
            return NO;
        }
        startCrowdAsNow(m);
        crowd.meet(n);
        return (int) crowd.inStand(x, y);
    }

    public int won(int m, int n, int p) {
        if (!isMeaning(m) || !isMeetings(n) || !isPeople(p)) {
            return BAD;
        }
        if (!laid.isTold(m)) {
            return NO;
        }
        startCrowdAsNow(m);
        crowd.meet(n);
        return (int) crowd.allSaying(p);
    }

    public int soon(int m, int q) {
        if (!isMeaning(m) || !isHundredths(q)) {
            return BAD;
        }
        if (!laid.isTold(m)) {
            return NO;
        }
        startCrowdAsNow(m);
        for (int n = 0; n <= MOST_MEETINGS; n++) {
            if (crowd.allSaying(0) + crowd.allSaying(1) >= q * HUNDREDTH_OF_MILLION) {
                return n;
            }
            if (!crowd.meetOnce()) {
                return NONE;
            }
        }
        return NONE;
    }

    public int use(int m, int n) {
        if (!isMeaning(m) || !isMeetings(n)) {
            return BAD;
        }
        if (!laid.isTold(m)) {
            return NO;
        }
        startCrowdAsNow(m);
        crowd.meet(n);
        return (int) (crowd.sayingWordZero() / 1000);
    }

    public int traders(int m, int n, int p, int q) {
        if (!isMeaning(m) || !isMeetings(n) || !isPeople(p) || !isHundredths(q)) {
            return BAD;
        }
        if (!laid.isTold(m)) {
            return NO;
        }
        crowd.habits(isAlike(m), laid.speaksOfTen(), laid.takesOfTen(0), laid.takesOfTen(1));
        for (int t = 1; t <= MOST_TRADERS; t++) {
            crowd.gather(t, t);
            crowd.begin(0, 0);
            crowd.meet(n);
            if (crowd.allSaying(p) >= q * HUNDREDTH_OF_MILLION) {
                return t;
            }
        }
        return NONE;
    }

    public int ready(int m, int n, int p, int q) {
        if (!isMeaning(m) || !isMeetings(n) || !isPeople(p) || !isHundredths(q)) {
            return BAD;
        }
        if (!laid.isTold(m)) {
            return NO;
        }
        boolean alike = isAlike(m);
        crowd.gather(laid.tradersOf(0), laid.tradersOf(1));
        for (int r = 0; r <= TEN; r++) {
            crowd.habits(alike, laid.speaksOfTen(), r, r);
            crowd.begin(stands.of(m, 0), stands.of(m, 1));
            crowd.meet(n);
            if (crowd.allSaying(p) >= q * HUNDREDTH_OF_MILLION) {
                return r;
            }
        }
        return NONE;
    }

    public int summer(int z, int n) {
        if (z < 0 || z > 9999 || n < 1 || n > 99) {
            return BAD;
        }
        for (int m = 0; m < MEANINGS; m++) {
            if (laid.isTold(m) && !isAlike(m)) {
                for (int t = 0; t < n; t++) {
                    meetByDraw(z, t, m);
                }
            }
        }
        return Integer.bitCount(tongueBits(0) | tongueBits(1));
    }

    public int tongue(int p) {
        return isPeople(p) ? tongueBits(p) : BAD;
    }

    // ---- lists, children, needs

    public int from(int ear, int m) {
        if (!isEar(ear) || !isMeaning(m)) {
            return BAD;
        }
        int heard = laid.heardBy(ear, m);
        if (heard == Word.EMPTY) {
            return NO;
        }
        int zero = likeOfWordThere(heard, laid.wordOf(0, m));
        int one = likeOfWordThere(heard, laid.wordOf(1, m));
        if (Math.max(zero, one) < laid.alikeFrom()) {
            return NONE;
        }
        return zero >= one ? 0 : 1;
    }

    public int chance(int ear, int p, int what) {
        if (!isEar(ear) || !isPeople(p) || what < 0 || what > 1) {
            return BAD;
        }
        int likeOnes = 0;
        int pairs = 0;
        for (int m = 0; m < MEANINGS; m++) {
            for (int n = 0; n < MEANINGS; n++) {
                int heard = laid.heardBy(ear, m);
                int word = laid.wordOf(p, n);
                if (m != n && heard != Word.EMPTY && word != Word.EMPTY) {
                    pairs++;
                    if (measure.likeness(heard, word) >= laid.alikeFrom()) {
                        likeOnes++;
                    }
                }
            }
        }
        return what == 0 ? likeOnes : pairs;
    }

    public int joined(int m) {
        if (!isMeaning(m)) {
            return BAD;
        }
        int best = NONE;
        // more than the others can be FAR together
        int least = EARS * LONGEST_WORD;
        for (int ear = 0; ear < EARS; ear++) {
            if (laid.heardBy(ear, m) != Word.EMPTY) {
                int apart = apartFromOtherEars(ear, m);
                if (apart < least) {
                    least = apart;
                    best = ear;
                }
            }
        }
        return best;
    }

    public int children(int s, int k, int g) {
        if (!isOfThousand(s) || !isBent(k) || g < 0 || g > MOST_GENERATIONS) {
            return BAD;
        }
        int say = s;
        for (int generation = 0; generation < g; generation++) {
            say = nextGeneration(say, k);
        }
        return say;
    }

    public int even(int s, int k) {
        if (!isOfThousand(s) || !isBent(k)) {
            return BAD;
        }
        int say = s;
        for (int g = 0; g <= MOST_GENERATIONS; g++) {
            if (say >= 950 || say <= 50) {
                return g;
            }
            say = nextGeneration(say, k);
        }
        return NONE;
    }

    public int fewest(int what) {
        if (what < 0 || what > 1) {
            return BAD;
        }
        int least = laid.needs().leastSet();
        return what == 0 ? least : Integer.bitCount(least);
    }

    public int both() {
        return laid.soundsOf(0) & laid.soundsOf(1);
    }

    public int lost(int p) {
        if (!isPeople(p)) {
            return BAD;
        }
        int bits = 0;
        for (int m = 0; m < MEANINGS; m++) {
            int word = laid.wordOf(p, m);
            for (int k = 0; k < Word.length(word); k++) {
                int sound = Word.soundAt(word, k);
                if (laid.soundSaidBy(1 - p, sound) == NONE) {
                    bits |= 1 << sound;
                }
            }
        }
        return bits;
    }

    public int keep() {
        return stands.push() ? stands.kept() : FULL;
    }

    public int back() {
        return stands.pop() ? stands.kept() : NO;
    }

    public int count(int what) {
        switch (what) {
            case 0: return toldMeanings();
            case 1: return text.length();
            case 2: return laid.needs().needsTold();
            case 3: return laid.needs().joinedTold();
            case 4: return stands.kept();
            case 5: return laid.tradersOf(0);
            case 6: return laid.tradersOf(1);
            default: return BAD;
        }
    }

    // ---- what numbers may be

    private static boolean isPeople(int p) {
        return p >= 0 && p < PEOPLES;
    }

    private static boolean isMeaning(int m) {
        return m >= 0 && m < MEANINGS;
    }

    private static boolean isEar(int ear) {
        return ear >= 0 && ear < EARS;
    }

    private static boolean isMeetings(int n) {
        return n >= 0 && n <= MOST_MEETINGS;
    }

    private static boolean isHundredths(int q) {
        return q >= 1 && q <= 100;
    }

    private static boolean isOfThousand(int s) {
        return s >= 0 && s <= 1000;
    }

    private static boolean isBent(int k) {
        return k >= 1 && k <= 3;
    }

    private boolean isStand(int x, int y) {
        return x >= 0 && x <= laid.tradersOf(0) && y >= 0 && y <= laid.tradersOf(1);
    }

    // ---- helpers of the calls

    /** Reads THE TEXT into the beach that is only tried, so that a FAULT leaves the laid one as it is. */
    private int tryText() {
        tried.clear();
        int place = 0;
        for (int items = 0; items < MOST_BYTES && place < text.length(); items++) {
            if (!item.readAt(place) || !tried.accepts(item)) {
                return place;
            }
            place = item.behind();
        }
        return NONE;
    }

    private int toldMeanings() {
        int told = 0;
        for (int m = 0; m < MEANINGS; m++) {
            if (laid.isTold(m)) {
                told++;
            }
        }
        return told;
    }

    private int likeOfMeaning(int m) {
        return measure.likeness(laid.saidBy(1, laid.wordOf(0, m)), laid.wordOf(1, m));
    }

    private boolean isAlike(int m) {
        return likeOfMeaning(m) >= laid.alikeFrom();
    }

    private void startCrowdAsNow(int m) {
        crowd.habits(isAlike(m), laid.speaksOfTen(), laid.takesOfTen(0), laid.takesOfTen(1));
        crowd.gather(laid.tradersOf(0), laid.tradersOf(1));
        crowd.begin(stands.of(m, 0), stands.of(m, 1));
    }

    private static int draw(int z, int t, int k, int m) {
        long x = 7919L * z + 6151L * t + 3571L * k + 2011L * m + 1;
        return (int) (x * x % 65521);
    }

    /** One MEETING of a summer; the MEANING is TOLD and not ALIKE. */
    private void meetByDraw(int z, int t, int m) {
        boolean zeroSaysOther = saysOther(draw(z, t, 2, m), laid.tradersOf(0), stands.of(m, 0));
        boolean oneSaysOther = saysOther(draw(z, t, 3, m), laid.tradersOf(1), stands.of(m, 1));
        // only one of them having changed over means that both say the same WORD
        if (zeroSaysOther != oneSaysOther) {
            return;
        }
        int hearer = draw(z, t, 1, m) % TEN < laid.speaksOfTen() ? 1 : 0;
        if (draw(z, t, 4, m) % TEN < laid.takesOfTen(hearer)) {
            stands.change(m, hearer, zeroSaysOther ? -1 : 1);
        }
    }

    /** Whether the one that is met, of all traders of a people, is one of those that say the other's WORD. */
    private static boolean saysOther(int drawn, int traders, int others) {
        return traders > 0 && drawn % traders < others;
    }

    private int tongueBits(int p) {
        int x = p == 0 ? 0 : laid.tradersOf(0);
        int y = p == 0 ? laid.tradersOf(1) : 0;
        int bits = 0;
        for (int m = 0; m < MEANINGS; m++) {
            if (laid.isTold(m) && (stands.of(m, 0) == x && stands.of(m, 1) == y || isAlike(m))) {
                bits |= 1 << m;
            }
        }
        return bits;
    }

    /** A people without a WORD is less LIKE than any. */
    private int likeOfWordThere(int heard, int word) {
        return word == Word.EMPTY ? -1 : measure.likeness(heard, word);
    }

    private int apartFromOtherEars(int ear, int m) {
        int sum = 0;
        for (int other = 0; other < EARS; other++) {
            int heard = laid.heardBy(other, m);
            if (other != ear && heard != Word.EMPTY) {
                sum += measure.apart(laid.heardBy(ear, m), heard);
            }
        }
        return sum;
    }

    private static int nextGeneration(int s, int k) {
        long say = 1;
        long sayNot = 1;
        for (int power = 0; power < k; power++) {
            say *= s;
            sayNot *= 1000 - s;
        }
        long all = say + sayNot;
        return all > 0 ? (int) (say * 1000 / all) : 0;
    }

    /** Rows of numbers, each place looked at before it is used; 0, where there is none. */
    private static final class Row {
        static int at(int[] row, int place) {
            return place >= 0 && place < row.length ? row[place] : 0;
        }

        static void put(int[] row, int place, int value) {
            if (place >= 0 && place < row.length) {
                row[place] = value;
            }
        }

        static long at(long[] row, int place) {
            return place >= 0 && place < row.length ? row[place] : 0;
        }

        static void add(long[] row, int place, long more) {
            if (place >= 0 && place < row.length) {
                row[place] += more;
            }
        }
    }

    /** A WORD as one number, so that no call makes an object: its length in 3 bits, each SOUND in 4 above. */
    private static final class Word {
        static final int EMPTY = 0;

        static int length(int word) {
            return word & 7;
        }

        static int soundAt(int word, int k) {
            return word >> (3 + 4 * k) & 15;
        }

        static int with(int word, int sound) {
            int length = length(word);
            return length < LONGEST_WORD ? word + 1 | sound << (3 + 4 * length) : word;
        }
    }

    /** FAR and LIKE of two WORDS. */
    private static final class Measure {
        private final int[] row = new int[LONGEST_WORD + 1];

        int apart(int one, int other) {
            int width = Math.min(Word.length(other), LONGEST_WORD);
            for (int j = 0; j <= width; j++) {
                row[j] = j;
            }
            for (int i = 1; i <= Word.length(one); i++) {
                int diagonal = row[0];
                row[0] = i;
                for (int j = 1; j <= width; j++) {
                    int changed = Word.soundAt(one, i - 1) == Word.soundAt(other, j - 1) ? diagonal : diagonal + 1;
                    diagonal = row[j];
                    row[j] = Math.min(changed, Math.min(row[j], row[j - 1]) + 1);
                }
            }
            return row[width];
        }

        int likeness(int one, int other) {
            int longer = Math.max(Word.length(one), Word.length(other));
            return longer == 0 ? 100 : 100 - 100 * apart(one, other) / longer;
        }
    }

    /** THE TEXT. */
    private static final class Text {
        private final byte[] bytes = new byte[MOST_BYTES];
        private int length;

        int length() {
            return length;
        }

        void clear() {
            length = 0;
        }

        void append(int value) {
            if (length < MOST_BYTES) {
                bytes[length] = (byte) value;
                length++;
            }
        }

        /** The byte at a place, or 0, which no ITEM has, where there is none. */
        int at(int place) {
            return place >= 0 && place < length ? bytes[place] & 255 : 0;
        }
    }

    /** One ITEM of THE TEXT, read from a place on. */
    private static final class Item {
        private final Text text;
        private final int[] numbers = new int[3];
        private int place;
        private int letter;
        private int word;
        private int bits;

        Item(Text text) {
            this.text = text;
        }

        boolean readAt(int start) {
            place = start;
            letter = text.at(place);
            place++;
            return readTold() && passes(';');
        }

        int letter() {
            return letter;
        }

        int number(int k) {
            return Row.at(numbers, k);
        }

        int spelled() {
            return word;
        }

        int bits() {
            return bits;
        }

        int behind() {
            return place;
        }

        private boolean readTold() {
            switch (letter) {
                case 'w': return readNumbers(PEOPLES - 1, MEANINGS - 1) && passes(',') && readWord();
                case 'e': return readNumbers(EARS - 1, MEANINGS - 1) && passes(',') && readWord();
                case 's': return readNumber(0, 0, PEOPLES - 1) && passes(',') && readRising('a', SOUNDS);
                case 'r': return readWord() && Word.length(word) == 2 && Word.soundAt(word, 0) != Word.soundAt(word, 1);
                case 'n': return readNumber(0, 1, MOST_TRADERS) && passes(',') && readNumber(1, 1, MOST_TRADERS);
                case 'k': return readNumbers(TEN, TEN);
                case 'o': return readNumber(0, 0, TEN);
                case 'g': return readNumber(0, 1, 99);
                case 'j': return readJoined();
                case 'u': return readRising('0', MEANINGS);
                default: return false;
            }
        }

        private boolean readJoined() {
            return readNumber(0, 0, MEANINGS - 1) && passes(',') && readNumber(1, 0, MEANINGS - 1) && passes(',')
                && readNumber(2, 0, MEANINGS - 1)
                && number(0) != number(1) && number(0) != number(2) && number(1) != number(2);
        }

        private boolean passes(int sign) {
            if (text.at(place) != sign) {
                return false;
            }
            place++;
            return true;
        }

        private boolean readNumbers(int most, int mostOfSecond) {
            return readNumber(0, 0, most) && passes(',') && readNumber(1, 0, mostOfSecond);
        }

        private boolean readNumber(int k, int least, int most) {
            if (!isFigure(text.at(place))) {
                return false;
            }
            int value = text.at(place) - '0';
            place++;
            if (isFigure(text.at(place))) {
                value = value * 10 + text.at(place) - '0';
                place++;
            }
            Row.put(numbers, k, value);
            return value >= least && value <= most;
        }

        private static boolean isFigure(int sign) {
            return sign >= '0' && sign <= '9';
        }

        private boolean readWord() {
            word = Word.EMPTY;
            for (int k = 0; k < LONGEST_WORD; k++) {
                int sound = text.at(place) - 'a';
                if (sound < 0 || sound >= SOUNDS) {
                    break;
                }
                word = Word.with(word, sound);
                place++;
            }
            return word != Word.EMPTY;
        }

        /** Signs from the first one on, each above the one before it, as bits; at least one. */
        private boolean readRising(int first, int many) {
            bits = 0;
            int before = -1;
            for (int k = 0; k < many; k++) {
                int value = text.at(place) - first;
                if (value <= before || value >= many) {
                    break;
                }
                bits |= 1 << value;
                before = value;
                place++;
            }
            return bits != 0;
        }
    }

    /** What a TEXT tells, all but the stands. */
    private static final class Beach {
        private final int[] words = new int[PEOPLES * MEANINGS];
        private final int[] heard = new int[EARS * MEANINGS];
        private final int[] canSay = new int[PEOPLES];
        private final int[] instead = new int[SOUNDS];
        private final int[] traders = new int[PEOPLES];
        private final int[] takes = new int[PEOPLES];
        private final Needs needs = new Needs();
        private int speaks;
        private int alikeFrom;

        Beach() {
            clear();
        }

        void clear() {
            Arrays.fill(words, Word.EMPTY);
            Arrays.fill(heard, Word.EMPTY);
            Arrays.fill(canSay, (1 << SOUNDS) - 1);
            Arrays.fill(instead, NONE);
            Arrays.fill(traders, 4);
            Arrays.fill(takes, 5);
            needs.clear();
            speaks = 5;
            alikeFrom = 70;
        }

        /** Takes in a well read ITEM; false, if there is no room for one more of its kind. */
        boolean accepts(Item item) {
            int first = item.number(0);
            int second = item.number(1);
            switch (item.letter()) {
                case 'w': Row.put(words, wordPlace(first, second), item.spelled()); return true;
                case 'e': Row.put(heard, heardPlace(first, second), item.spelled()); return true;
                case 's': Row.put(canSay, first, item.bits()); return true;
                case 'r': tellExchange(item.spelled()); return true;
                case 'n': tellPair(traders, first, second); return true;
                case 'k': tellPair(takes, first, second); return true;
                case 'o': speaks = first; return true;
                case 'g': alikeFrom = first; return true;
                case 'j': return needs.tellJoined(first, 1 << second | 1 << item.number(2));
                case 'u': return needs.tellNeed(item.bits());
                default: return false;
            }
        }

        private void tellExchange(int pair) {
            Row.put(instead, Word.soundAt(pair, 0), Word.soundAt(pair, 1));
        }

        private static void tellPair(int[] pair, int zero, int one) {
            Row.put(pair, 0, zero);
            Row.put(pair, 1, one);
        }

        private static int wordPlace(int p, int m) {
            return p * MEANINGS + m;
        }

        private static int heardPlace(int ear, int m) {
            return ear * MEANINGS + m;
        }

        int wordOf(int p, int m) {
            return Row.at(words, wordPlace(p, m));
        }

        int heardBy(int ear, int m) {
            return Row.at(heard, heardPlace(ear, m));
        }

        boolean isTold(int m) {
            return wordOf(0, m) != Word.EMPTY && wordOf(1, m) != Word.EMPTY;
        }

        int soundsOf(int p) {
            return Row.at(canSay, p);
        }

        int tradersOf(int p) {
            return Row.at(traders, p);
        }

        int takesOfTen(int p) {
            return Row.at(takes, p);
        }

        int speaksOfTen() {
            return speaks;
        }

        int alikeFrom() {
            return alikeFrom;
        }

        Needs needs() {
            return needs;
        }

        /** What becomes of a SOUND in the mouth of a people; NONE: it falls out. */
        int soundSaidBy(int p, int sound) {
            int sounds = Row.at(canSay, p);
            if ((sounds >> sound & 1) != 0) {
                return sound;
            }
            int other = Row.at(instead, sound);
            return other != NONE && (sounds >> other & 1) != 0 ? other : NONE;
        }

        int saidBy(int p, int word) {
            int said = Word.EMPTY;
            for (int k = 0; k < Word.length(word); k++) {
                int sound = soundSaidBy(p, Word.soundAt(word, k));
                if (sound != NONE) {
                    said = Word.with(said, sound);
                }
            }
            return said;
        }
    }

    /** NEEDS, and MEANINGS that can be said by two joined. */
    private static final class Needs {
        private final int[] joinedMeaning = new int[MOST_JOINED];
        private final int[] joinedPair = new int[MOST_JOINED];
        private int joinedTold;
        private int needsTold;
        private int needed;

        void clear() {
            joinedTold = 0;
            needsTold = 0;
            needed = 0;
        }

        boolean tellJoined(int m, int pair) {
            if (joinedTold >= MOST_JOINED) {
                return false;
            }
            Row.put(joinedMeaning, joinedTold, 1 << m);
            Row.put(joinedPair, joinedTold, pair);
            joinedTold++;
            return true;
        }

        boolean tellNeed(int bits) {
            if (needsTold >= MOST_NEEDS) {
                return false;
            }
            needed |= bits;
            needsTold++;
            return true;
        }

        int needsTold() {
            return needsTold;
        }

        int joinedTold() {
            return joinedTold;
        }

        private int sayableBy(int set) {
            int sayable = set;
            for (int k = 0; k < joinedTold; k++) {
                if ((Row.at(joinedPair, k) & ~set) == 0) {
                    sayable |= Row.at(joinedMeaning, k);
                }
            }
            return sayable;
        }

        /** All MEANINGS together always do, so there is one; rising sets make the first one the least. */
        int leastSet() {
            int all = (1 << MEANINGS) - 1;
            int best = all;
            for (int set = 0; set < all; set++) {
                if (Integer.bitCount(set) < Integer.bitCount(best) && (needed & ~sayableBy(set)) == 0) {
                    best = set;
                }
            }
            return best;
        }
    }

    /** The STANDS of all MEANINGS now, and those KEPT. */
    private static final class Stands {
        private static final int SIZE = PEOPLES * MEANINGS;
        private final int[] others = new int[SIZE];
        private final int[] keptOthers = new int[MOST_KEPT * SIZE];
        private int kept;

        void clear() {
            Arrays.fill(others, 0);
            kept = 0;
        }

        int of(int m, int p) {
            return Row.at(others, PEOPLES * m + p);
        }

        void put(int m, int x, int y) {
            Row.put(others, PEOPLES * m, x);
            Row.put(others, PEOPLES * m + 1, y);
        }

        void change(int m, int p, int by) {
            Row.put(others, PEOPLES * m + p, of(m, p) + by);
        }

        int kept() {
            return kept;
        }

        boolean push() {
            if (kept >= MOST_KEPT) {
                return false;
            }
            System.arraycopy(others, 0, keptOthers, kept * SIZE, SIZE);
            kept++;
            return true;
        }

        boolean pop() {
            if (kept <= 0) {
                return false;
            }
            kept--;
            System.arraycopy(keptOthers, kept * SIZE, others, 0, SIZE);
            return true;
        }
    }

    /** A MILLION, parted over all STANDS of one MEANING. */
    private static final class Crowd {
        private static final int WIDTH = MOST_TRADERS + 1;
        private final long[] now = new long[WIDTH * WIDTH];
        private final long[] next = new long[WIDTH * WIDTH];
        private int a = 1;
        private int b = 1;
        private int zeroHears;
        private int oneHears;
        private boolean moved;

        /** How many traders there are of each people, 1 to 8. */
        void gather(int ofZero, int ofOne) {
            a = Math.max(1, Math.min(ofZero, MOST_TRADERS));
            b = Math.max(1, Math.min(ofOne, MOST_TRADERS));
        }

        /** In how many of a hundred a people hears and would take another WORD: in none, if it is ALIKE. */
        void habits(boolean alike, int zeroSpeaks, int zeroTakes, int oneTakes) {
            zeroHears = alike ? 0 : (TEN - zeroSpeaks) * zeroTakes;
            oneHears = alike ? 0 : zeroSpeaks * oneTakes;
        }

        void begin(int x, int y) {
            Arrays.fill(now, 0);
            Row.add(now, place(x, y), MILLION);
        }

        void meet(int meetings) {
            boolean goesOn = true;
            for (int n = 0; n < meetings && goesOn; n++) {
                goesOn = meetOnce();
            }
        }

        /** False, if none went on to another STAND: then none does in any later MEETING. */
        boolean meetOnce() {
            moved = false;
            System.arraycopy(now, 0, next, 0, now.length);
            for (int x = 0; x <= a; x++) {
                for (int y = 0; y <= b; y++) {
                    part(x, y);
                }
            }
            System.arraycopy(next, 0, now, 0, now.length);
            return moved;
        }

        long inStand(int x, int y) {
            return Row.at(now, place(x, y));
        }

        long allSaying(int p) {
            return p == 0 ? inStand(0, b) : inStand(a, 0);
        }

        long sayingWordZero() {
            long sum = 0;
            for (int x = 0; x <= a; x++) {
                for (int y = 0; y <= b; y++) {
                    sum += (a - x + y) * inStand(x, y);
                }
            }
            return sum;
        }

        private static int place(int x, int y) {
            return x * WIDTH + y;
        }

        /** Both own WORDS meet in (a - x)(b - y) pairs, both changed ones in x y: in no others WORDS differ. */
        private void part(int x, int y) {
            int from = place(x, y);
            long here = Row.at(now, from);
            long own = here * ((a - x) * (b - y));
            long changed = here * (x * y);
            if (own > 0) {
                go(from, place(x + 1, y), own * zeroHears);
                go(from, place(x, y + 1), own * oneHears);
            }
            if (changed > 0) {
                go(from, place(x - 1, y), changed * zeroHears);
                go(from, place(x, y - 1), changed * oneHears);
            }
        }

        private void go(int from, int to, long parts) {
            long by = 100L * a * b;
            long many = by > 0 ? parts / by : 0;
            if (many > 0) {
                Row.add(next, from, -many);
                Row.add(next, to, many);
                moved = true;
            }
        }
    }
}
