/** Promise 2: boards 0 .. 31. */
public final class BoardTest {
    public static void main(String[] args) {
        firstIsZero();
        lastIsThirtyOne();
        thirtyThirdIsRefused();
        refusedAgainAndAgain();
        newBoardIsBare();
        Due.end();
    }

    private static void firstIsZero() {
        StrengthRows x = new StrengthRows(1);
        Due.fails("board 0 before it", Due.INDEX, () -> x.about(0, 0));
        Due.isLong("board()", x.board(), 0);
        Due.isLong("board 0 behind it", x.about(0, 0), 0);
        Due.fails("board 1 behind it", Due.INDEX, () -> x.about(1, 0));
    }

    private static void lastIsThirtyOne() {
        StrengthRows x = new StrengthRows(1);
        for (int i = 0; i < 32; i++) {
            Due.isLong("board()", x.board(), i);
        }
        Due.isLong("row of the last board", x.row(31, 1), 1);
        Due.fails("row(32, 1)", Due.INDEX, () -> x.row(32, 1));
    }

    private static void thirtyThirdIsRefused() {
        Twins.refuse("board 33", Due.STATE, x -> Sample.tellBoards(x, 32), x -> x.board());
        Twins.refuse("board 33 of bare ones", Due.STATE, x -> {
            for (int i = 0; i < 32; i++) {
                x.board();
            }
        }, x -> x.board());
    }

    private static void refusedAgainAndAgain() {
        StrengthRows x = Sample.withBoards(32);
        for (int i = 0; i < 100; i++) {
            Due.fails("board beyond 32", Due.STATE, () -> x.board());
        }
        Due.fails("about(32, 0)", Due.INDEX, () -> x.about(32, 0));
    }

    private static void newBoardIsBare() {
        StrengthRows x = Sample.four();
        int board = x.board();
        for (int what = 0; what < 4; what++) {
            Due.isLong("about(4, " + what + ")", x.about(board, what), 0);
        }
        x.fit();
        x.row(board, 1);
        x.echo(board, 1, 1);
        Due.is("KNOTS are 0 at first: 1 + 2 * 1 + 4 * 1", x.foretold(board), 7);
    }
}
