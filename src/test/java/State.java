/**
 * All that the answers of an object tell of what it holds, in one text. Asking uses the object up: what is KEPT is
 * taken back and THE TEXT is laid and wiped at the end.
 */
final class State {
    /** An object answers 512 calls; those that made it what it is need room, too. */
    private static final int MOST_CALLS = 400;

    private final TradeWords x;
    private final StringBuilder told = new StringBuilder();
    private int calls;

    private State(TradeWords x) {
        this.x = x;
    }

    static String of(TradeWords x) {
        State state = new State(x);
        state.counts();
        state.tell("fault", x.fault());
        state.words();
        state.stands();
        state.meetings();
        state.lists();
        state.kept();
        state.text();
        return state.told.toString();
    }

    private int tell(String what, int answer) {
        calls++;
        if (calls > MOST_CALLS) {
            throw new AssertionError("too many calls for one object");
        }
        told.append(what).append(' ').append(answer).append('\n');
        return answer;
    }

    private void counts() {
        for (int what = 0; what <= 6; what++) {
            tell("count " + what, x.count(what));
        }
    }

    private void words() {
        for (int p = 0; p < 2; p++) {
            tell("lost " + p, x.lost(p));
            for (int m = 0; m < 8; m++) {
                word(p, m, p);
                word(p, m, 1 - p);
            }
        }
        tell("both", x.both());
    }

    private void word(int p, int m, int q) {
        int length = tell("length " + p + m + q, x.word(p, m, q, -1));
        for (int k = 0; k < length; k++) {
            tell("sound " + k, x.word(p, m, q, k));
        }
    }

    private void stands() {
        for (int m = 0; m < 8; m++) {
            if (tell("x of " + m, x.stand(m, 0)) != TradeWords.NO) {
                tell("y of " + m, x.stand(m, 1));
            }
        }
    }

    private void meetings() {
        for (int m = 0; m < 8; m++) {
            if (tell("like " + m, x.like(m)) == TradeWords.NO) {
                continue;
            }
            tell("far " + m, x.far(0, m, 1, m));
            tell("million " + m, x.million(m, 2, 1, 1));
            tell("won by 0, " + m, x.won(m, 20, 0));
            tell("won by 1, " + m, x.won(m, 20, 1));
            tell("use " + m, x.use(m, 20));
            tell("soon " + m, x.soon(m, 40));
            tell("traders " + m, x.traders(m, 20, 1, 30));
            tell("ready " + m, x.ready(m, 20, 0, 20));
        }
        tell("tongue 0", x.tongue(0));
        tell("tongue 1", x.tongue(1));
    }

    private void lists() {
        for (int m = 0; m < 8; m++) {
            tell("joined " + m, x.joined(m));
            for (int ear = 0; ear < 3; ear++) {
                tell("from " + ear + m, x.from(ear, m));
            }
        }
        for (int ear = 0; ear < 3; ear++) {
            for (int p = 0; p < 2; p++) {
                tell("like by chance " + ear + p, x.chance(ear, p, 0));
                tell("of how many " + ear + p, x.chance(ear, p, 1));
            }
        }
        tell("fewest", x.fewest(0));
        tell("how many", x.fewest(1));
    }

    private void kept() {
        for (int k = 0; k <= 2; k++) {
            if (tell("back", x.back()) == TradeWords.NO) {
                return;
            }
            stands();
        }
    }

    /** What THE TEXT tells, which shows its bytes. */
    private void text() {
        if (tell("lay", x.lay()) != TradeWords.NO) {
            counts();
            for (int p = 0; p < 2; p++) {
                for (int m = 0; m < 8; m++) {
                    word(p, m, p);
                }
            }
        }
        tell("wipe", x.wipe());
    }
}
