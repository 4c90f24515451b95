/** Promise 5: a share of KNOTS. */
public final class KnotsTest {
    public static void main(String[] args) {
        knotsLessenTheThirdTerm();
        leastAndGreatestAreTaken();
        beyondThemIsRefused();
        laterShareReplaces();
        noSuchBoard();
        orderOfExceptions();
        Due.end();
    }

    /** By C = 1, 2, 4 with X1 = 1 the answer is 7 - 4 * KNOTS. */
    private static StrengthRows foretellingKnots() {
        StrengthRows x = Sample.four();
        x.fit();
        x.board();
        x.row(4, 1);
        x.echo(4, 1, 1);
        return x;
    }

    private static void knotsLessenTheThirdTerm() {
        StrengthRows x = foretellingKnots();
        Due.is("without knots", x.foretold(4), 7);
        x.knots(4, 0.25);
        Due.is("a quarter of knots", x.foretold(4), 6);
        x.knots(4, 0.3);
        Due.is("X2 is 1 - KNOTS", x.foretold(4), 1.0 + 2.0 * 1.0 + 4.0 * (1 - 0.3));
    }

    private static void leastAndGreatestAreTaken() {
        for (double share : new double[] {0.0, -0.0, Double.MIN_VALUE, Math.nextDown(1.0), 1}) {
            StrengthRows x = foretellingKnots();
            x.knots(4, 0.5);
            Due.passes("knots(" + share + ")", () -> x.knots(4, share));
            Due.is("foretold with knots " + share, x.foretold(4), 1.0 + 2.0 * 1.0 + 4.0 * (1 - share));
        }
    }

    private static void beyondThemIsRefused() {
        for (double share : Beyond.doubles(0, 1)) {
            Twins.refuse("knots(1, " + share + ")", Due.ARGUMENT, Sample::tellMuch, x -> x.knots(1, share));
            Twins.refuse("knots(6, " + share + ")", Due.ARGUMENT, Sample::tellMuch, x -> x.knots(6, share));
        }
    }

    private static void laterShareReplaces() {
        Twins.alike("the latest share counts", x -> {
            Sample.tellMuch(x);
            x.knots(1, 1);
            x.knots(1, 0);
        }, x -> {
            Sample.tellMuch(x);
            x.knots(1, 0);
        });
    }

    private static void noSuchBoard() {
        Twins.refuseNoSuchBoard("knots", (x, board) -> x.knots(board, 0.5));
        Twins.takeEachBoard("knots", (x, board) -> x.knots(board, 0.5));
    }

    private static void orderOfExceptions() {
        Twins.refuseNoSuchBoard("wrong knots", (x, board) -> x.knots(board, 2));
        Twins.refuseNoSuchBoard("knots that are no number", (x, board) -> x.knots(board, Double.NaN));
    }
}
