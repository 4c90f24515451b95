/** Promises 7 to 10: least squares, the numbers, what is foretold, each board left out. */
public final class FitTest {
    public static void main(String[] args) {
        exactNumbers();
        meanOfRowsCounts();
        onlyCompleteBrokenBoardsCount();
        columnsArePassedOver();
        pivotEdge();
        numberRefuses();
        foretoldIsByLatestFit();
        leftOutIsByAnotherFit();
        Due.end();
    }

    private static void numbers(String what, StrengthRows x, double c0, double c1, double c2) {
        Due.is(what + ": number(0)", x.number(0), c0);
        Due.is(what + ": number(1)", x.number(1), c1);
        Due.is(what + ": number(2)", x.number(2), c2);
    }

    private static void exactNumbers() {
        StrengthRows x = Sample.four();
        numbers("before a fit", x, 0, 0, 0);
        Due.isLong("fit", x.fit(), 3);
        numbers("four boards", x, 1, 2, 4);
        Due.isLong("fit again", x.fit(), 3);
        numbers("four boards again", x, 1, 2, 4);
    }

    private static void meanOfRowsCounts() {
        StrengthRows x = Sample.four();
        x.fit();
        int board = x.board();
        x.row(board, 1);
        x.row(board, 2);
        x.row(board, 6);
        x.echo(board, 2, 1);
        x.knots(board, 1);
        Due.is("1 + 2 * (3 + 4) / 2", x.foretold(board), 8);
    }

    private static void onlyCompleteBrokenBoardsCount() {
        StrengthRows x = Sample.four();
        int withoutEcho = x.board();
        x.row(withoutEcho, 500);
        x.broken(withoutEcho, 3);
        int withoutRow = x.board();
        x.echo(withoutRow, 7, 7);
        x.broken(withoutRow, 900);
        Sample.complete(x, 77, 0.75);
        Due.isLong("fit", x.fit(), 3);
        numbers("the others do not count", x, 1, 2, 4);
        Due.isLong("three boards go out", x.proof(8), 3);
        x.fit();
        numbers("boards that are out count", x, 1, 2, 4);
    }

    private static void columnsArePassedOver() {
        StrengthRows none = Sample.withBoards(2);
        Due.isLong("no board: rank", none.fit(), 0);
        numbers("no board", none, 0, 0, 0);

        StrengthRows one = new StrengthRows(1);
        Sample.complete(one, 3, 0.5);
        one.broken(0, 8);
        Due.isLong("one board: rank", one.fit(), 1);
        numbers("one board", one, 8, 0, 0);

        StrengthRows sameX1 = new StrengthRows(1);
        Sample.complete(sameX1, 4, 0.5);
        Sample.complete(sameX1, 4, 0);
        sameX1.broken(0, 8);
        sameX1.broken(1, 12);
        Due.isLong("X1 all the same: rank", sameX1.fit(), 2);
        numbers("X1 all the same", sameX1, 4, 0, 8);

        StrengthRows sameX2 = new StrengthRows(1);
        Sample.complete(sameX2, 2, 0.5);
        Sample.complete(sameX2, 4, 0.5);
        sameX2.broken(0, 8);
        sameX2.broken(1, 12);
        Due.isLong("X2 all the same: rank", sameX2.fit(), 2);
        numbers("X2 all the same", sameX2, 4, 2, 0);
    }

    /** Four boards with X1 = 1 + e, 1 - e: behind the first column S(1, 1) is 4 * e * e. */
    private static void pivotEdge() {
        Due.isLong("a pivot of 2^-20", rankOfSpread(1.0 / 2048), 2);
        Due.isLong("a pivot below 2^-20", rankOfSpread(1.0 / 2048 - 1.0 / 1048576), 1);
        Due.isLong("a pivot a little below 2^-20", rankOfSpread(1.0 / 2048 - 1.0 / (1L << 33)), 1);
        Due.isLong("a pivot above 2^-20", rankOfSpread(1.0 / 2048 + 1.0 / 1048576), 2);
    }

    private static int rankOfSpread(double e) {
        StrengthRows x = new StrengthRows(1);
        for (int i = 0; i < 4; i++) {
            Sample.complete(x, i < 2 ? 1 + e : 1 - e, 0);
            x.broken(i, 10);
        }
        return x.fit();
    }

    private static void numberRefuses() {
        StrengthRows x = Sample.four();
        for (int k : new int[] {-1, 3, Integer.MIN_VALUE, Integer.MAX_VALUE}) {
            Due.fails("number(" + k + ")", Due.INDEX, () -> x.number(k));
        }
    }

    private static void foretoldIsByLatestFit() {
        StrengthRows x = Sample.four();
        Due.is("foretold before a fit", x.foretold(0), 0);
        x.fit();
        int late = Sample.complete(x, 5, 0.25);
        x.broken(late, 100);
        Due.is("foretold by the fit before", x.foretold(late), 14);
        Due.is("foretold(0)", x.foretold(0), 5);
        x.row(0, 3);
        Due.is("foretold with a new row", x.foretold(0), 6);
        int bare = x.board();
        Due.fails("foretold of a bare board", Due.STATE, () -> x.foretold(bare));
        x.row(bare, 5);
        Due.fails("foretold without an echo", Due.STATE, () -> x.foretold(bare));
        Due.fails("foretold of no board", Due.INDEX, () -> x.foretold(bare + 1));
        Due.fails("foretold(-1)", Due.INDEX, () -> x.foretold(-1));
    }

    private static void leftOutIsByAnotherFit() {
        StrengthRows x = Sample.four();
        int odd = Sample.complete(x, 5, 0.25);
        x.broken(odd, 1000);
        Due.is("left out of the exact ones", x.leftOut(odd), 14);
        numbers("no fit yet", x, 0, 0, 0);
        x.fit();
        double c0 = x.number(0);
        double c1 = x.number(1);
        double c2 = x.number(2);
        Due.isTrue("the odd board counts in the fit", x.foretold(odd) != 14);
        Due.is("left out again", x.leftOut(odd), 14);
        numbers("the latest fit stays", x, c0, c1, c2);
        int whole = Sample.complete(x, 2, 0.5);
        Due.is("left out, not broken", x.leftOut(whole), x.foretold(whole));

        StrengthRows alone = new StrengthRows(1);
        Sample.complete(alone, 2, 0.5);
        alone.broken(0, 30);
        alone.fit();
        Due.is("left out of itself alone", alone.leftOut(0), 0);
        Due.is("foretold of itself alone", alone.foretold(0), 30);

        int bare = x.board();
        Due.fails("left out of a bare board", Due.STATE, () -> x.leftOut(bare));
        Due.fails("left out of no board", Due.INDEX, () -> x.leftOut(bare + 1));
        Due.fails("leftOut(-1)", Due.INDEX, () -> x.leftOut(-1));
    }
}
