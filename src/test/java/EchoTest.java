/** Promise 4: the ECHO, and with it when a board is COMPLETE. */
public final class EchoTest {
    public static void main(String[] args) {
        echoIsDensityByHertzSquared();
        leftToRight();
        leastAndGreatestAreTaken();
        completeAboveZeroOnly();
        laterEchoReplaces();
        hertzBeyondIsRefused();
        densityBeyondIsRefused();
        noSuchBoard();
        orderOfExceptions();
        Due.end();
    }

    /** By C = 1, 2, 4 with all KNOTS and a ROW of 2 the answer is 3 + ECHO. */
    private static StrengthRows foretellingEchoes() {
        StrengthRows x = Sample.four();
        x.fit();
        x.board();
        x.row(4, 2);
        x.knots(4, 1);
        return x;
    }

    private static void echoIsDensityByHertzSquared() {
        StrengthRows x = foretellingEchoes();
        x.echo(4, 4, 2.5);
        Due.is("3 + 40", x.foretold(4), 43);
    }

    private static void leftToRight() {
        StrengthRows x = foretellingEchoes();
        x.echo(4, 0.7, 0.3);
        Due.is("density * hertz * hertz", x.foretold(4), 1.0 + 2.0 * ((2 + 0.3 * 0.7 * 0.7) / 2) + 4.0 * 0.0);
        double hertz = 1e-162;
        Due.isTrue("hertz * hertz rounds to 0", hertz * hertz == 0);
        x.echo(4, hertz, 10);
        Due.isLong("10 * hertz * hertz does not", x.about(4, 1), 1);
    }

    private static void leastAndGreatestAreTaken() {
        StrengthRows x = foretellingEchoes();
        x.echo(4, 100, 10);
        Due.is("both the greatest", x.foretold(4), 100003);
        x.echo(4, 100, 1);
        Due.is("the greatest hertz", x.foretold(4), 10003);
        x.echo(4, 1, 10);
        Due.is("the greatest density", x.foretold(4), 13);
        for (double zero : new double[] {0.0, -0.0}) {
            Due.passes("hertz " + zero, () -> x.echo(4, zero, 10));
            Due.isLong("the least hertz", x.about(4, 1), 0);
            x.echo(4, 1, 1);
            Due.passes("density " + zero, () -> x.echo(4, 100, zero));
            Due.isLong("the least density", x.about(4, 1), 0);
            Due.passes("both " + zero, () -> x.echo(4, zero, zero));
            x.echo(4, 1, 1);
        }
    }

    private static void completeAboveZeroOnly() {
        StrengthRows x = foretellingEchoes();
        Due.isLong("no echo", x.about(4, 1), 0);
        x.echo(4, 1, Double.MIN_VALUE);
        Due.isLong("the least echo above 0", x.about(4, 1), 1);
        Due.is("foretold by it", x.foretold(4), 3);
        x.echo(4, Double.MIN_VALUE, 10);
        Due.isLong("an echo that rounds to 0", x.about(4, 1), 0);
        int bare = x.board();
        x.echo(bare, 1, 1);
        Due.isLong("an echo without a row", x.about(bare, 1), 0);
        x.row(bare, 0);
        Due.isLong("an echo with a row of 0", x.about(bare, 1), 1);
    }

    private static void laterEchoReplaces() {
        Twins.alike("a second echo replaces the first", x -> {
            Sample.tellMuch(x);
            x.echo(1, 5, 5);
            x.echo(1, 2, 3);
        }, x -> {
            Sample.tellMuch(x);
            x.echo(1, 2, 3);
        });
        Twins.alike("an echo of 0 is as none", x -> {
            Sample.tellMuch(x);
            x.echo(4, 5, 5);
            x.echo(4, 0, 5);
        }, Sample::tellMuch);
    }

    private static void hertzBeyondIsRefused() {
        for (double hertz : Beyond.doubles(0, 100)) {
            Twins.refuse("hertz " + hertz, Due.ARGUMENT, Sample::tellMuch, x -> x.echo(1, hertz, 1));
            Twins.refuse("hertz " + hertz + ", no echo", Due.ARGUMENT, Sample::tellMuch, x -> x.echo(4, hertz, 0));
        }
    }

    private static void densityBeyondIsRefused() {
        for (double density : Beyond.doubles(0, 10)) {
            Twins.refuse("density " + density, Due.ARGUMENT, Sample::tellMuch, x -> x.echo(1, 1, density));
            Twins.refuse("density " + density + ", hertz 0", Due.ARGUMENT, Sample::tellMuch,
                    x -> x.echo(4, 0, density));
        }
        Twins.refuse("both beyond", Due.ARGUMENT, Sample::tellMuch, x -> x.echo(1, -1, -1));
    }

    private static void noSuchBoard() {
        Twins.refuseNoSuchBoard("echo", (x, board) -> x.echo(board, 3, 3));
        Twins.takeEachBoard("echo", (x, board) -> x.echo(board, 3, 3));
    }

    private static void orderOfExceptions() {
        Twins.refuseNoSuchBoard("a wrong hertz", (x, board) -> x.echo(board, 101, 1));
        Twins.refuseNoSuchBoard("a wrong density", (x, board) -> x.echo(board, 1, Double.NaN));
    }
}
