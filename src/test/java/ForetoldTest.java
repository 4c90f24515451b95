/** Promises 9 and 10: what is FORETOLD, and what with the board itself LEFT OUT. */
public final class ForetoldTest {
    public static void main(String[] args) {
        foretoldIsByLatestFit();
        foretoldAtTheEdgesOfTerms();
        foretoldNeedsCompleteness();
        leftOutIsByAnotherFit();
        leftOutOfNone();
        leftOutFirstAndLast();
        leftOutNotBroken();
        leftOutRefuses();
        latestFitStays();
        noSuchBoard();
        Due.end();
    }

    private static void foretoldIsByLatestFit() {
        StrengthRows x = Sample.four();
        Due.is("foretold before a fit", x.foretold(0), 0);
        x.fit();
        int late = Sample.complete(x, 5, 0.25);
        x.broken(late, 100);
        Due.is("foretold by the fit before", x.foretold(late), 14);
        Due.is("foretold(0)", x.foretold(0), 5);
        x.row(0, 3);
        Due.is("foretold with a new row", x.foretold(0), 6);
        x.proof(1000);
        Due.is("foretold, being out", x.foretold(0), 6);
    }

    private static void foretoldAtTheEdgesOfTerms() {
        StrengthRows x = Sample.four();
        x.fit();
        x.board();
        x.row(4, 0);
        x.echo(4, 1, Double.MIN_VALUE);
        x.knots(4, 1);
        Due.is("the least terms", x.foretold(4), 1);
        x.board();
        for (int i = 0; i < 8; i++) {
            x.row(5, 1000);
        }
        x.echo(5, 100, 10);
        Due.is("the greatest terms", x.foretold(5), 1 + 101000 + 4);
    }

    /** Each with what is missing: of tellMuch's boards 4 has no ECHO, 5 no ROW, 6 neither. */
    private static void refuseIncomplete(String call, Twins.OfBoard act) {
        for (int board = 4; board <= 6; board++) {
            int b = board;
            Twins.refuse(call + " of board " + b, Due.STATE, Sample::tellMuch, x -> act.of(x, b));
        }
        Twins.refuse(call + " with an echo of 0", Due.STATE, x -> {
            Sample.tellMuch(x);
            x.echo(1, 0, 10);
        }, x -> act.of(x, 1));
        StrengthRows x = new StrengthRows(1);
        x.board();
        Due.fails(call + " without both", Due.STATE, () -> act.of(x, 0));
        x.row(0, 0);
        Due.fails(call + " without an echo", Due.STATE, () -> act.of(x, 0));
        x.echo(0, 1, Double.MIN_VALUE);
        Due.passes(call + " with both", () -> act.of(x, 0));
    }

    private static void foretoldNeedsCompleteness() {
        refuseIncomplete("foretold", (x, board) -> x.foretold(board));
    }

    private static void leftOutIsByAnotherFit() {
        StrengthRows x = Sample.four();
        int odd = Sample.complete(x, 5, 0.25);
        x.broken(odd, 1000);
        Due.is("left out before a fit", x.leftOut(odd), 14);
        x.fit();
        Due.isTrue("the odd board counts in the fit", x.foretold(odd) != 14);
        Due.is("left out behind it", x.leftOut(odd), 14);
        x.knots(odd, 1);
        Due.is("left out with its new knots", x.leftOut(odd), 11);
        x.proof(1000);
        Due.is("left out, all being out", x.leftOut(odd), 11);
    }

    private static void leftOutOfNone() {
        StrengthRows x = Sample.one(30);
        x.fit();
        Due.is("foretold of itself alone", x.foretold(0), 30);
        Due.is("left out of itself alone", x.leftOut(0), 0);
        x.board();
        x.broken(1, 50);
        Due.is("the other one is not complete", x.leftOut(0), 0);
        x.row(1, 1);
        x.echo(1, 1, 1);
        Due.is("left out of two", x.leftOut(0), 50);
        Due.is("the other one left out", x.leftOut(1), 30);
    }

    private static void leftOutFirstAndLast() {
        StrengthRows x = new StrengthRows(1);
        for (int i = 0; i < 32; i++) {
            Sample.complete(x, 1, 0);
            x.broken(i, i == 0 || i == 31 ? 31 : 0);
        }
        Due.is("left out first", x.leftOut(0), 1);
        Due.is("left out last", x.leftOut(31), 1);
        Due.is("left out between", x.leftOut(15), 2);
    }

    private static void leftOutNotBroken() {
        StrengthRows x = Sample.four();
        int whole = Sample.complete(x, 2, 0.5);
        Due.is("left out before a fit, not broken", x.leftOut(whole), 7);
        x.fit();
        Due.is("left out, not broken", x.leftOut(whole), x.foretold(whole));
    }

    private static void leftOutRefuses() {
        refuseIncomplete("leftOut", (x, board) -> x.leftOut(board));
    }

    private static void latestFitStays() {
        for (int board : new int[] {0, 3, 7}) {
            Twins.stay("leftOut(" + board + ")", Sample::tellMuch, x -> x.leftOut(board));
            Twins.stay("foretold(" + board + ")", Sample::tellMuch, x -> x.foretold(board));
        }
        Twins.stay("leftOut(0) before a fit", Sample::tellFour, x -> x.leftOut(0));
    }

    private static void noSuchBoard() {
        Twins.refuseNoSuchBoard("foretold", (x, board) -> x.foretold(board));
        Twins.refuseNoSuchBoard("leftOut", (x, board) -> x.leftOut(board));
        Twins.takeEachBoard("foretold", (x, board) -> x.foretold(board));
        Twins.takeEachBoard("leftOut", (x, board) -> x.leftOut(board));
    }
}
