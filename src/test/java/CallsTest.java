/** An object is used for 512 calls: the last of them is answered as the first. */
public final class CallsTest {
    private static final int CALLS = 512;

    public static void main(String[] args) {
        testsOnly();
        fitsOnly();
        allBoardsLeftOut();
        refusedCallsOnly();
        allRoomTaken();
        Due.end();
    }

    private static void testsOnly() {
        StrengthRows x = new StrengthRows(1);
        x.chart(1, 0);
        for (int call = 2; call <= CALLS; call++) {
            Due.isTrue("call " + call, x.test(true) == (call % 2 == 0));
        }
    }

    private static void fitsOnly() {
        StrengthRows x = Sample.four();
        for (int call = 21; call <= CALLS; call++) {
            Due.isLong("fit, call " + call, x.fit(), 3);
        }
    }

    private static void allBoardsLeftOut() {
        StrengthRows x = new StrengthRows(1);
        Model model = new Model(1);
        for (int i = 0; i < 32; i++) {
            x.board();
            model.board();
            x.row(i, i * i);
            model.row(i, i * i);
            x.echo(i, 1 + i / 7.0, 0.3);
            model.echo(i, 1 + i / 7.0, 0.3);
            x.knots(i, i % 5 / 11.0);
            model.knots(i, i % 5 / 11.0);
            x.broken(i, 30 + i % 9);
            model.broken(i, 30 + i % 9);
        }
        for (int call = 161; call <= CALLS; call++) {
            int board = call % 32;
            Due.is("leftOut, call " + call, x.leftOut(board), model.leftOut(board));
        }
    }

    private static void refusedCallsOnly() {
        StrengthRows x = new StrengthRows(1);
        for (int call = 1; call < CALLS; call += 7) {
            Due.fails("row", Due.INDEX, () -> x.row(0, 1));
            Due.fails("knots", Due.INDEX, () -> x.knots(0, 1));
            Due.fails("limit", Due.ARGUMENT, () -> x.limit(0, -1));
            Due.fails("chart", Due.ARGUMENT, () -> x.chart(0, 0));
            Due.fails("proof", Due.ARGUMENT, () -> x.proof(-1));
            Due.fails("reference", Due.ARGUMENT, () -> x.reference(-1, 0));
            Due.fails("odds", Due.INDEX, () -> x.odds(0, 0, 0, 1, 2));
        }
        Due.isLong("the 512th call", x.board(), 0);
    }

    private static void allRoomTaken() {
        StrengthRows x = new StrengthRows(1);
        int calls = 0;
        for (int board = 0; board < 32; board++) {
            Due.isLong("board()", x.board(), board);
            for (int i = 1; i <= 8; i++) {
                Due.isLong("row", x.row(board, 2), i);
            }
            x.echo(board, 2, 1);
            x.broken(board, 9);
            calls += 11;
        }
        for (int i = 1; i <= 16; i++) {
            Due.isLong("reference", x.reference(i, i), i);
            calls++;
        }
        Due.isLong("fit", x.fit(), 1);
        calls++;
        for (; calls < CALLS - 1; calls++) {
            int board = calls % 32;
            Due.is("foretold(" + board + ")", x.foretold(board), 9);
        }
        Due.isLong("the 512th call", x.proof(10), 32);
    }
}
