import java.util.List;

/** Two objects that were told nearly the same, asked by every probe: do all of their answers agree? */
final class Twins {
    interface Told {
        void to(StrengthRows x);
    }

    interface OfBoard {
        void of(StrengthRows x, int board);
    }

    private static final int SEED = 7;

    private Twins() {
    }

    /** The call throws the very exception, and behind it all is as if it had never been made. */
    static void refuse(String call, Class<? extends RuntimeException> want, Told before, Told refused) {
        String change = firstChange(x -> {
            before.to(x);
            Due.fails(call, want, () -> refused.to(x));
        }, before);
        Due.isTrue(call + ", refused, changes nothing" + change, change.isEmpty());
    }

    /** The call answers, and behind it all is as if it had never been made. */
    static void stay(String call, Told before, Told asked) {
        alike(call + " changes nothing", x -> {
            before.to(x);
            asked.to(x);
        }, before);
    }

    static void alike(String what, Told one, Told other) {
        String change = firstChange(one, other);
        Due.isTrue(what + change, change.isEmpty());
    }

    static void differ(String what, Told one, Told other) {
        Due.isTrue(what + ": told apart", !firstChange(one, other).isEmpty());
    }

    /** A call that takes a board, with boards that are not there: there are none, some, or all of them. */
    static void refuseNoSuchBoard(String call, OfBoard act) {
        for (int count : new int[] {0, 1, 31, 32}) {
            for (int board : new int[] {-1, count, 32, Integer.MIN_VALUE, Integer.MAX_VALUE}) {
                String told = call + " of board " + board + ", there being " + count;
                refuse(told, Due.INDEX, x -> Sample.tellBoards(x, count), x -> act.of(x, board));
            }
        }
    }

    /** A call that takes a board, with the first board, and with the last one of some and of all. */
    static void takeEachBoard(String call, OfBoard act) {
        for (int count : new int[] {1, 31, 32}) {
            for (int board : new int[] {0, count - 1}) {
                StrengthRows x = made(each -> Sample.tellBoards(each, count));
                Due.passes(call + " of board " + board + ", there being " + count, () -> act.of(x, board));
            }
        }
    }

    private static StrengthRows made(Told before) {
        StrengthRows x = new StrengthRows(SEED);
        before.to(x);
        return x;
    }

    private static String firstChange(Told one, Told other) {
        for (Probe probe : Probe.values()) {
            List<String> got = probe.answers(made(one));
            List<String> want = probe.answers(made(other));
            for (int i = 0; i < want.size() || i < got.size(); i++) {
                String answer = i < got.size() ? got.get(i) : "nothing";
                String due = i < want.size() ? want.get(i) : "nothing";
                if (!answer.equals(due)) {
                    return " (" + probe + ", answer " + i + ": " + answer + ", not " + due + ")";
                }
            }
        }
        return "";
    }
}
