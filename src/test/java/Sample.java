/** Boards whose fit has no rounding: X1 is 1 or 3, X2 is 0.5 or 1, STRENGTH is 1 + 2 * X1 + 4 * X2. */
final class Sample {
    private Sample() {
    }

    /** Boards 0 .. 3 with the strengths 5, 7, 9, 11; not yet fitted. */
    static StrengthRows four() {
        StrengthRows x = new StrengthRows(1);
        tellFour(x);
        return x;
    }

    static void tellFour(StrengthRows x) {
        complete(x, 1, 0.5);
        complete(x, 1, 0);
        complete(x, 3, 0.5);
        complete(x, 3, 0);
        x.broken(0, 5);
        x.broken(1, 7);
        x.broken(2, 9);
        x.broken(3, 11);
    }

    /** A board more, COMPLETE, with that X1 (between 0.5 and 500) and that share of knots. */
    static int complete(StrengthRows x, double x1, double share) {
        int board = x.board();
        x.row(board, x1 * 2 - 1);
        x.echo(board, 1, 1);
        x.knots(board, share);
        return board;
    }

    static StrengthRows withBoards(int count) {
        StrengthRows x = new StrengthRows(1);
        for (int i = 0; i < count; i++) {
            x.board();
        }
        return x;
    }

    /** An object with one board, COMPLETE and BROKEN: a fit foretells just that strength. */
    static StrengthRows one(double strength) {
        StrengthRows x = new StrengthRows(1);
        complete(x, 1, 0);
        x.broken(0, strength);
        return x;
    }

    /** Boards that are COMPLETE and, but for each fifth, BROKEN. */
    static void tellBoards(StrengthRows x, int count) {
        for (int i = 0; i < count; i++) {
            complete(x, 1 + i, i % 4 / 8.0);
            if (i % 5 != 4) {
                x.broken(i, 10 + i);
            }
        }
    }

    /**
     * Something of everything: boards 0 .. 3 are the four, 0 is OUT; 4 has no ECHO; 5 has no ROW, but was BROKEN;
     * 6 is bare; 7 is COMPLETE, but not BROKEN. Days 5 and 9 have references; the chart (4, 1) has seen one bad test.
     */
    static void tellMuch(StrengthRows x) {
        tellFour(x);
        int withoutEcho = x.board();
        x.row(withoutEcho, 6);
        x.knots(withoutEcho, 0.25);
        int withoutRow = x.board();
        x.echo(withoutRow, 2, 1.5);
        x.broken(withoutRow, 12);
        x.board();
        complete(x, 4, 0.75);
        x.fit();
        x.proof(6);
        x.limit(0, 8);
        x.limit(3, 10.5);
        x.chart(4, 1);
        x.test(true);
        x.reference(5, 2);
        x.reference(9, -3);
    }
}
