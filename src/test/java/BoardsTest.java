/** Promises 2 to 6 and 17: what is told of boards, and what about() answers of it. */
public final class BoardsTest {
    private static final double NAN = 0.0 / 0.0;
    private static final double[] BELOW_AND_NAN = {-Double.MIN_VALUE, -1, Double.NEGATIVE_INFINITY, NAN};

    public static void main(String[] args) {
        boardsAreNumbered();
        rowsAreCounted();
        rowRefusesInOrder();
        echoIsDensityByHertzSquared();
        echoRefuses();
        knotsLessenTheThirdTerm();
        brokenIsToldOnce();
        completeNeedsRowAndEcho();
        aboutRefuses();
        Due.end();
    }

    private static void boardsAreNumbered() {
        StrengthRows x = new StrengthRows(1);
        for (int i = 0; i < 32; i++) {
            Due.isLong("board()", x.board(), i);
        }
        Due.fails("board 33", Due.STATE, () -> x.board());
        Due.fails("board 34", Due.STATE, () -> x.board());
        Due.isLong("row of the last board", x.row(31, 1), 1);
        Due.fails("row(32, 1)", Due.INDEX, () -> x.row(32, 1));
    }

    private static void rowsAreCounted() {
        StrengthRows x = Sample.withBoards(2);
        for (int i = 1; i <= 8; i++) {
            Due.isLong("row(0, ..)", x.row(0, i), i);
            Due.isLong("about(0, 0)", x.about(0, 0), i);
        }
        Due.fails("row 9", Due.STATE, () -> x.row(0, 1));
        Due.isLong("about(0, 0) behind the refusal", x.about(0, 0), 8);
        Due.isLong("about(1, 0)", x.about(1, 0), 0);
        Due.isLong("row(1, 0)", x.row(1, 0), 1);
        Due.isLong("row(1, 1000)", x.row(1, 1000), 2);
        x.echo(1, 1, 0.5);
        x.broken(1, 500);
        x.fit();
        Due.is("foretold of one board alone", x.foretold(1), 500);
    }

    private static void rowRefusesInOrder() {
        StrengthRows x = Sample.withBoards(1);
        for (double stiff : BELOW_AND_NAN) {
            Due.fails("row(0, " + stiff + ")", Due.ARGUMENT, () -> x.row(0, stiff));
        }
        Due.fails("row above", Due.ARGUMENT, () -> x.row(0, Math.nextUp(1000.0)));
        Due.fails("row of infinity", Due.ARGUMENT, () -> x.row(0, Double.POSITIVE_INFINITY));
        Due.fails("row(-1, -1)", Due.INDEX, () -> x.row(-1, -1));
        Due.fails("row(1, -1)", Due.INDEX, () -> x.row(1, -1));
        Due.fails("row of the greatest int", Due.INDEX, () -> x.row(Integer.MAX_VALUE, 1));
        Due.fails("row of the least int", Due.INDEX, () -> x.row(Integer.MIN_VALUE, 1));
        Due.isLong("no row was told", x.about(0, 0), 0);
        for (int i = 0; i < 8; i++) {
            x.row(0, 1);
        }
        Due.fails("a wrong row of a full board", Due.ARGUMENT, () -> x.row(0, -1));
        Due.fails("a row of a full board", Due.STATE, () -> x.row(0, 1));
    }

    private static void echoIsDensityByHertzSquared() {
        StrengthRows x = Sample.four();
        Due.isLong("fit", x.fit(), 3);
        int board = x.board();
        x.row(board, 2);
        x.knots(board, 1);
        x.echo(board, 4, 2.5);
        Due.is("1 + 2 * (2 + 40) / 2", x.foretold(board), 43);
        x.echo(board, 100, 10);
        Due.is("1 + 2 * (2 + 100000) / 2", x.foretold(board), 100003);
        x.echo(board, 0.7, 0.3);
        Due.is("density * hertz * hertz from the left", x.foretold(board),
                1.0 + 2.0 * ((2 + 0.3 * 0.7 * 0.7) / 2) + 4.0 * 0.0);
        x.echo(board, 3, 0);
        Due.isLong("an echo of 0 takes completeness", x.about(board, 1), 0);
    }

    private static void echoRefuses() {
        StrengthRows x = Sample.withBoards(1);
        x.row(0, 1);
        for (double wrong : BELOW_AND_NAN) {
            Due.fails("echo of hertz " + wrong, Due.ARGUMENT, () -> x.echo(0, wrong, 1));
            Due.fails("echo of density " + wrong, Due.ARGUMENT, () -> x.echo(0, 1, wrong));
        }
        Due.fails("echo of hertz above", Due.ARGUMENT, () -> x.echo(0, Math.nextUp(100.0), 1));
        Due.fails("echo of density above", Due.ARGUMENT, () -> x.echo(0, 1, Math.nextUp(10.0)));
        Due.fails("echo(1, -1, -1)", Due.INDEX, () -> x.echo(1, -1, -1));
        Due.fails("echo(-1, 1, 1)", Due.INDEX, () -> x.echo(-1, 1, 1));
        Due.isLong("no echo was told", x.about(0, 1), 0);
    }

    private static void knotsLessenTheThirdTerm() {
        StrengthRows x = Sample.four();
        x.fit();
        int board = x.board();
        x.row(board, 1);
        x.echo(board, 1, 1);
        Due.is("without knots", x.foretold(board), 7);
        x.knots(board, 0.25);
        Due.is("a quarter of knots", x.foretold(board), 6);
        x.knots(board, 1);
        Due.is("all knots", x.foretold(board), 3);
        for (double share : BELOW_AND_NAN) {
            Due.fails("knots(" + share + ")", Due.ARGUMENT, () -> x.knots(board, share));
        }
        Due.fails("knots above 1", Due.ARGUMENT, () -> x.knots(board, Math.nextUp(1.0)));
        Due.fails("knots of no board", Due.INDEX, () -> x.knots(board + 1, 2));
        Due.fails("knots of board -1", Due.INDEX, () -> x.knots(-1, 0.5));
        Due.is("knots as before", x.foretold(board), 3);
        x.knots(board, 0);
        Due.is("no knots again", x.foretold(board), 7);
    }

    private static void brokenIsToldOnce() {
        StrengthRows x = Sample.withBoards(3);
        for (double strength : BELOW_AND_NAN) {
            Due.fails("broken(0, " + strength + ")", Due.ARGUMENT, () -> x.broken(0, strength));
        }
        Due.fails("broken above", Due.ARGUMENT, () -> x.broken(0, Math.nextUp(1000.0)));
        Due.fails("broken(3, -1)", Due.INDEX, () -> x.broken(3, -1));
        Due.fails("broken(-1, 1)", Due.INDEX, () -> x.broken(-1, 1));
        Due.isLong("not broken", x.about(0, 2), 0);
        x.broken(0, 0);
        x.broken(1, 1000);
        Due.isLong("broken", x.about(0, 2), 1);
        Due.isLong("broken", x.about(1, 2), 1);
        Due.isLong("not broken", x.about(2, 2), 0);
        Due.fails("broken again", Due.STATE, () -> x.broken(0, 5));
        Due.fails("broken again, wrongly", Due.ARGUMENT, () -> x.broken(0, 1001));
        Due.isLong("only the strength 0 is below", x.proof(5), 1);
        Due.fails("broken, being out", Due.STATE, () -> x.broken(0, 5));
    }

    private static void completeNeedsRowAndEcho() {
        StrengthRows x = Sample.withBoards(2);
        Due.isLong("neither", x.about(0, 1), 0);
        x.row(0, 0);
        Due.isLong("a row alone", x.about(0, 1), 0);
        x.echo(0, 0, 10);
        Due.isLong("an echo of 0", x.about(0, 1), 0);
        x.echo(0, 0.5, 0.5);
        Due.isLong("both", x.about(0, 1), 1);
        x.echo(1, 1, 1);
        Due.isLong("an echo alone", x.about(1, 1), 0);
        x.echo(1, Double.MIN_VALUE, 1);
        x.row(1, 1);
        Due.isLong("an echo that rounds to 0", x.about(1, 1), 0);
    }

    private static void aboutRefuses() {
        StrengthRows x = Sample.withBoards(1);
        for (int what : new int[] {-1, 4, Integer.MIN_VALUE, Integer.MAX_VALUE}) {
            Due.fails("about(0, " + what + ")", Due.INDEX, () -> x.about(0, what));
        }
        for (int board : new int[] {-1, 1, 31, 32, Integer.MIN_VALUE, Integer.MAX_VALUE}) {
            Due.fails("about(" + board + ", 0)", Due.INDEX, () -> x.about(board, 0));
        }
    }
}
