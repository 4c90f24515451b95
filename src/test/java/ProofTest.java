/** Promise 16: boards go OUT, once and for ever. */
public final class ProofTest {
    public static void main(String[] args) {
        onlyStrengthsBelowGoOut();
        outIsForEver();
        proofRefuses();
        Due.end();
    }

    private static void onlyStrengthsBelowGoOut() {
        StrengthRows x = Sample.four();
        int whole = x.board();
        Due.isLong("proof(0)", x.proof(0), 0);
        Due.isLong("proof(5)", x.proof(5), 0);
        Due.isLong("proof just above 5", x.proof(Math.nextUp(5.0)), 1);
        Due.isLong("about(0, 3)", x.about(0, 3), 1);
        Due.isLong("about(1, 3)", x.about(1, 3), 0);
        Due.isLong("proof(11)", x.proof(11), 2);
        Due.isLong("proof(1000)", x.proof(1000), 1);
        Due.isLong("about(3, 3)", x.about(3, 3), 1);
        Due.isLong("a board not broken has no strength", x.about(whole, 3), 0);
        x.broken(whole, 1);
        Due.isLong("broken behind the proof", x.about(whole, 3), 0);
        Due.isLong("the next proof", x.proof(2), 1);
        Due.isLong("about(whole, 3)", x.about(whole, 3), 1);
    }

    private static void outIsForEver() {
        StrengthRows x = Sample.four();
        Due.isLong("proof(8)", x.proof(8), 2);
        Due.isLong("proof(8) again", x.proof(8), 0);
        Due.isLong("proof(1)", x.proof(1), 0);
        Due.isLong("still out", x.about(0, 3), 1);
        Due.isLong("still broken", x.about(0, 2), 1);
        Due.isLong("still complete", x.about(0, 1), 1);
        Due.isLong("a row of a board that is out", x.row(0, 1), 2);
        Due.fails("broken, being out", Due.STATE, () -> x.broken(0, 5));
    }

    private static void proofRefuses() {
        StrengthRows x = Sample.four();
        for (double load : new double[] {-1, -Double.MIN_VALUE, Math.nextUp(1000.0), 0.0 / 0.0, 1 / 0.0, -1 / 0.0}) {
            Due.fails("proof(" + load + ")", Due.ARGUMENT, () -> x.proof(load));
        }
        for (int board = 0; board < 4; board++) {
            Due.isLong("not out", x.about(board, 3), 0);
        }
    }
}
