/** Promise 3: ROWS of stiffness, and their MEAN. */
public final class RowTest {
    public static void main(String[] args) {
        rowsAreCounted();
        meanIsOfOneRowAndOfEight();
        meanIsSummedInTurn();
        leastAndGreatestAreTaken();
        beyondThemIsRefused();
        ninthRowIsRefused();
        eachBoardHasItsOwnRows();
        noSuchBoard();
        orderOfExceptions();
        Due.end();
    }

    private static void tellEightRows(StrengthRows x) {
        Sample.tellMuch(x);
        for (int i = 0; i < 7; i++) {
            x.row(1, i);
        }
    }

    private static void rowsAreCounted() {
        StrengthRows x = Sample.withBoards(2);
        for (int i = 1; i <= 8; i++) {
            Due.isLong("row(0, ..)", x.row(0, i), i);
            Due.isLong("about(0, 0)", x.about(0, 0), i);
        }
        Due.isLong("about(1, 0)", x.about(1, 0), 0);
    }

    /** By C = 1, 2, 4 with all KNOTS and an ECHO of 1 the answer is 2 + MEAN. */
    private static StrengthRows foretellingMeans() {
        StrengthRows x = Sample.four();
        x.fit();
        x.board();
        x.knots(4, 1);
        x.echo(4, 1, 1);
        return x;
    }

    private static void meanIsOfOneRowAndOfEight() {
        StrengthRows x = foretellingMeans();
        x.row(4, 16);
        Due.is("the mean of one", x.foretold(4), 18);
        x.row(4, 0);
        Due.is("the mean of two", x.foretold(4), 10);
        for (int i = 0; i < 5; i++) {
            x.row(4, 0);
        }
        x.row(4, 24);
        Due.is("the mean of eight", x.foretold(4), 7);
    }

    private static void meanIsSummedInTurn() {
        double[] rows = {0.1, 0.2, 0.3, 0.7, 1000, 1e-9, 0.4, 0.6};
        StrengthRows x = foretellingMeans();
        double sum = 0;
        for (double stiff : rows) {
            x.row(4, stiff);
            sum = sum + stiff;
        }
        Due.is("the mean of eight", x.foretold(4), 1.0 + 2.0 * ((sum / 8 + 1.0) / 2));
    }

    private static void leastAndGreatestAreTaken() {
        for (double stiff : new double[] {0.0, -0.0, Double.MIN_VALUE, Math.nextDown(1000.0), 1000}) {
            StrengthRows x = foretellingMeans();
            Due.isLong("row(4, " + stiff + ")", x.row(4, stiff), 1);
            Due.is("foretold by " + stiff, x.foretold(4), 1.0 + 2.0 * ((stiff + 1.0) / 2));
        }
    }

    private static void beyondThemIsRefused() {
        for (double stiff : Beyond.doubles(0, 1000)) {
            Twins.refuse("row(1, " + stiff + ")", Due.ARGUMENT, Sample::tellMuch, x -> x.row(1, stiff));
            Twins.refuse("row(6, " + stiff + ")", Due.ARGUMENT, Sample::tellMuch, x -> x.row(6, stiff));
        }
    }

    private static void ninthRowIsRefused() {
        StrengthRows x = new StrengthRows(1);
        tellEightRows(x);
        Due.isLong("eight rows", x.about(1, 0), 8);
        for (double stiff : new double[] {0, 5, 1000}) {
            Twins.refuse("row 9 of " + stiff, Due.STATE, RowTest::tellEightRows, y -> y.row(1, stiff));
        }
    }

    private static void eachBoardHasItsOwnRows() {
        StrengthRows x = Sample.withBoards(32);
        for (int board = 0; board < 32; board++) {
            for (int i = 1; i <= 8; i++) {
                Due.isLong("row " + i + " of board " + board, x.row(board, i), i);
            }
        }
        for (int board = 0; board < 32; board++) {
            int b = board;
            Due.fails("row 9 of board " + b, Due.STATE, () -> x.row(b, 1));
            Due.isLong("rows of board " + b, x.about(b, 0), 8);
        }
    }

    private static void noSuchBoard() {
        Twins.refuseNoSuchBoard("row", (x, board) -> x.row(board, 3));
        Twins.takeEachBoard("row", (x, board) -> x.row(board, 3));
    }

    private static void orderOfExceptions() {
        Twins.refuseNoSuchBoard("a wrong row", (x, board) -> x.row(board, -1));
        Twins.refuseNoSuchBoard("a row that is no number", (x, board) -> x.row(board, Double.NaN));
        for (double stiff : Beyond.doubles(0, 1000)) {
            Twins.refuse("row 9 of " + stiff, Due.ARGUMENT, RowTest::tellEightRows, x -> x.row(1, stiff));
        }
        Twins.refuse("a row of no board, all rows being there", Due.INDEX, RowTest::tellEightRows, x -> x.row(8, 1));
    }
}
