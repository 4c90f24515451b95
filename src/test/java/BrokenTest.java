/** Promise 6: a board is BROKEN once, with a STRENGTH. */
public final class BrokenTest {
    public static void main(String[] args) {
        brokenIsTold();
        leastAndGreatestAreTaken();
        beyondThemIsRefused();
        brokenBeforeIsRefused();
        outIsRefused();
        noSuchBoard();
        orderOfExceptions();
        Due.end();
    }

    private static void brokenIsTold() {
        StrengthRows x = Sample.withBoards(2);
        Due.isLong("not broken", x.about(0, 2), 0);
        x.broken(0, 5);
        Due.isLong("broken", x.about(0, 2), 1);
        Due.isLong("the other one is not", x.about(1, 2), 0);
        Due.isLong("bare boards have strengths", x.proof(6), 1);
    }

    private static void leastAndGreatestAreTaken() {
        for (double strength : new double[] {0.0, -0.0, Double.MIN_VALUE, Math.nextDown(1000.0), 1000}) {
            StrengthRows x = Sample.one(strength);
            Due.isLong("broken at " + strength, x.about(0, 2), 1);
            x.fit();
            Due.is("foretold by " + strength + " alone", x.foretold(0), strength);
        }
    }

    private static void beyondThemIsRefused() {
        for (double strength : Beyond.doubles(0, 1000)) {
            for (int board : new int[] {4, 6, 7}) {
                Twins.refuse("broken(" + board + ", " + strength + ")", Due.ARGUMENT, Sample::tellMuch,
                        x -> x.broken(board, strength));
            }
        }
    }

    private static void brokenBeforeIsRefused() {
        for (double strength : new double[] {0, 7, 20, 1000}) {
            Twins.refuse("board 1 broken again", Due.STATE, Sample::tellMuch, x -> x.broken(1, strength));
            Twins.refuse("board 5 broken again, without a row", Due.STATE, Sample::tellMuch,
                    x -> x.broken(5, strength));
        }
        StrengthRows least = Sample.one(0);
        Due.fails("broken again behind a strength of 0", Due.STATE, () -> least.broken(0, 0));
    }

    private static void outIsRefused() {
        for (double strength : new double[] {0, 5, 20, 1000}) {
            Twins.refuse("board 0 broken, being out", Due.STATE, Sample::tellMuch, x -> x.broken(0, strength));
        }
    }

    private static void noSuchBoard() {
        Twins.refuseNoSuchBoard("broken", (x, board) -> x.broken(board, 3));
        for (int board : new int[] {0, 31}) {
            StrengthRows x = Sample.withBoards(32);
            Due.passes("broken(" + board + ", 3)", () -> x.broken(board, 3));
        }
    }

    private static void orderOfExceptions() {
        Twins.refuseNoSuchBoard("a wrong strength", (x, board) -> x.broken(board, -1));
        Twins.refuseNoSuchBoard("a strength that is no number", (x, board) -> x.broken(board, Double.NaN));
        for (double strength : Beyond.doubles(0, 1000)) {
            for (int board : new int[] {0, 1, 5}) {
                Twins.refuse("broken(" + board + ", " + strength + ") again", Due.ARGUMENT, Sample::tellMuch,
                        x -> x.broken(board, strength));
            }
        }
        Twins.refuse("no board broken, others being out", Due.INDEX, Sample::tellMuch, x -> x.broken(8, 1));
    }
}
