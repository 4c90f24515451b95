/** Promise 17: what about() answers of a board. */
public final class AboutTest {
    public static void main(String[] args) {
        rowsAreToldOf();
        completeNeedsRowAndEcho();
        brokenIsToldOf();
        outIsToldOf();
        noSuchWhat();
        noSuchBoard();
        asksOnly();
        Due.end();
    }

    private static void rowsAreToldOf() {
        StrengthRows x = Sample.withBoards(2);
        Due.isLong("no row", x.about(0, 0), 0);
        for (int i = 1; i <= 8; i++) {
            x.row(0, 0);
            Due.isLong("about(0, 0)", x.about(0, 0), i);
        }
        Due.isLong("the other one has none", x.about(1, 0), 0);
    }

    private static void completeNeedsRowAndEcho() {
        StrengthRows x = Sample.withBoards(2);
        Due.isLong("neither", x.about(0, 1), 0);
        x.row(0, 0);
        Due.isLong("a row alone", x.about(0, 1), 0);
        x.echo(0, 0, 10);
        Due.isLong("an echo of 0", x.about(0, 1), 0);
        x.echo(0, 0.5, 0.5);
        Due.isLong("both", x.about(0, 1), 1);
        x.echo(1, 1, 1);
        Due.isLong("an echo alone", x.about(1, 1), 0);
    }

    private static void brokenIsToldOf() {
        StrengthRows x = Sample.withBoards(2);
        Due.isLong("not broken", x.about(0, 2), 0);
        x.broken(0, 0);
        Due.isLong("broken at 0", x.about(0, 2), 1);
        Due.isLong("the other one is not", x.about(1, 2), 0);
    }

    private static void outIsToldOf() {
        StrengthRows x = Sample.withBoards(3);
        x.broken(0, 4);
        x.broken(1, 5);
        Due.isLong("not out", x.about(0, 3), 0);
        x.proof(5);
        Due.isLong("out", x.about(0, 3), 1);
        Due.isLong("still broken", x.about(0, 2), 1);
        Due.isLong("the stronger one is not out", x.about(1, 3), 0);
        Due.isLong("the one that was not broken is not out", x.about(2, 3), 0);
    }

    private static void noSuchWhat() {
        for (int what : Beyond.ints(0, 3)) {
            for (int board : new int[] {0, 6}) {
                Twins.refuse("about(" + board + ", " + what + ")", Due.INDEX, Sample::tellMuch,
                        x -> x.about(board, what));
            }
        }
    }

    private static void noSuchBoard() {
        for (int what = -1; what <= 4; what++) {
            int w = what;
            Twins.refuseNoSuchBoard("about what " + w, (x, board) -> x.about(board, w));
        }
        for (int what = 0; what <= 3; what++) {
            int w = what;
            Twins.takeEachBoard("about what " + w, (x, board) -> x.about(board, w));
        }
    }

    private static void asksOnly() {
        for (int what = 0; what <= 3; what++) {
            int w = what;
            Twins.stay("about(1, " + w + ")", Sample::tellMuch, x -> x.about(1, w));
        }
    }
}
