/** Boards whose fit has no rounding: X1 is 1 or 3, X2 is 0.5 or 1, STRENGTH is 1 + 2 * X1 + 4 * X2. */
final class Sample {
    private Sample() {
    }

    /** Boards 0 .. 3 with the strengths 5, 7, 9, 11; not yet fitted. */
    static StrengthRows four() {
        StrengthRows x = new StrengthRows(1);
        complete(x, 1, 0.5);
        complete(x, 1, 0);
        complete(x, 3, 0.5);
        complete(x, 3, 0);
        x.broken(0, 5);
        x.broken(1, 7);
        x.broken(2, 9);
        x.broken(3, 11);
        return x;
    }

    /** A board more, COMPLETE, with that X1 (between 0.5 and 500) and that share of knots. */
    static int complete(StrengthRows x, double x1, double share) {
        int board = x.board();
        x.row(board, x1 * 2 - 1);
        x.echo(board, 1, 1);
        x.knots(board, share);
        return board;
    }

    static StrengthRows withBoards(int count) {
        StrengthRows x = new StrengthRows(1);
        for (int i = 0; i < count; i++) {
            x.board();
        }
        return x;
    }
}
