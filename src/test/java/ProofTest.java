/** Promise 16: boards go OUT, once and for ever. */
public final class ProofTest {
    public static void main(String[] args) {
        onlyStrengthsBelowGoOut();
        leastAndGreatestAreTaken();
        noneAndAllGoOut();
        boardsWithoutStrengthStay();
        outIsForEver();
        lowerProofChangesNothing();
        beyondThemIsRefused();
        Due.end();
    }

    private static void onlyStrengthsBelowGoOut() {
        StrengthRows x = Sample.four();
        Due.isLong("proof(5)", x.proof(5), 0);
        Due.isLong("about(0, 3)", x.about(0, 3), 0);
        Due.isLong("proof just above 5", x.proof(Math.nextUp(5.0)), 1);
        Due.isLong("about(0, 3)", x.about(0, 3), 1);
        Due.isLong("about(1, 3)", x.about(1, 3), 0);
        Due.isLong("proof(11)", x.proof(11), 2);
        Due.isLong("about(3, 3)", x.about(3, 3), 0);
        Due.isLong("proof(1000)", x.proof(1000), 1);
        Due.isLong("about(3, 3)", x.about(3, 3), 1);
    }

    private static void out(double strength, double load, int due) {
        StrengthRows x = Sample.one(strength);
        Due.isLong("proof(" + load + ") of " + strength, x.proof(load), due);
        Due.isLong("whether it is out", x.about(0, 3), due);
    }

    private static void leastAndGreatestAreTaken() {
        out(0, 0, 0);
        out(0, -0.0, 0);
        out(-0.0, 0, 0);
        out(0, Double.MIN_VALUE, 1);
        out(Math.nextDown(1000.0), Math.nextDown(1000.0), 0);
        out(Math.nextDown(1000.0), 1000, 1);
        out(1000, 1000, 0);
    }

    private static void noneAndAllGoOut() {
        StrengthRows none = new StrengthRows(1);
        Due.isLong("no board", none.proof(1000), 0);
        StrengthRows x = Sample.withBoards(32);
        Due.isLong("no board broken", x.proof(1000), 0);
        for (int board = 0; board < 32; board++) {
            x.broken(board, board);
        }
        Due.isLong("the first", x.proof(1), 1);
        Due.isLong("all but the last", x.proof(31), 30);
        Due.isLong("the last is left", x.about(31, 3), 0);
        Due.isLong("the last", x.proof(32), 1);
        Due.isLong("none is left", x.proof(1000), 0);
    }

    private static void boardsWithoutStrengthStay() {
        StrengthRows x = new StrengthRows(1);
        int whole = Sample.complete(x, 3, 0);
        Due.isLong("a board not broken", x.proof(1000), 0);
        Due.isLong("about(whole, 3)", x.about(whole, 3), 0);
        x.broken(whole, 1);
        Due.isLong("broken behind the proof", x.about(whole, 3), 0);
        Due.isLong("the next proof", x.proof(2), 1);
        Due.isLong("about(whole, 3)", x.about(whole, 3), 1);
    }

    private static void outIsForEver() {
        StrengthRows x = Sample.four();
        Due.isLong("proof(8)", x.proof(8), 2);
        Due.isLong("proof(8) again", x.proof(8), 0);
        Due.isLong("proof(1)", x.proof(1), 0);
        Due.isLong("still out", x.about(0, 3), 1);
        Due.isLong("still broken", x.about(0, 2), 1);
        Due.isLong("still complete", x.about(0, 1), 1);
        Due.isLong("a row of a board that is out", x.row(0, 1), 2);
        Due.passes("its echo", () -> x.echo(0, 2, 2));
        Due.passes("its knots", () -> x.knots(0, 1));
        Due.fails("broken, being out", Due.STATE, () -> x.broken(0, 5));
        Due.isLong("out behind all that", x.about(0, 3), 1);
    }

    private static void lowerProofChangesNothing() {
        Twins.stay("proof(6) again", Sample::tellMuch, x -> x.proof(6));
        Twins.stay("proof(0)", Sample::tellMuch, x -> x.proof(0));
        Twins.stay("proof(7), no strength being between", Sample::tellMuch, x -> x.proof(7));
    }

    private static void beyondThemIsRefused() {
        for (double load : Beyond.doubles(0, 1000)) {
            Twins.refuse("proof(" + load + ") without boards", Due.ARGUMENT, x -> { }, x -> x.proof(load));
            Twins.refuse("proof(" + load + ")", Due.ARGUMENT, Sample::tellMuch, x -> x.proof(load));
        }
    }
}
