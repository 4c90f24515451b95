/** The tests' own tool: a change of each kind is told apart, and no change is not. */
public final class TwinsTest {
    public static void main(String[] args) {
        noChangeIsNone();
        boardsAreToldApart();
        fitsAndLimitsAreToldApart();
        chartsAreToldApart();
        referencesAreToldApart();
        Due.end();
    }

    private static void changes(String what, Twins.Told act) {
        Twins.differ(what, x -> {
            Sample.tellMuch(x);
            act.to(x);
        }, Sample::tellMuch);
    }

    private static void noChangeIsNone() {
        Twins.alike("nothing told", x -> { }, x -> { });
        Twins.alike("much told", Sample::tellMuch, Sample::tellMuch);
        Twins.alike("all boards", x -> Sample.tellBoards(x, 32), x -> Sample.tellBoards(x, 32));
        Twins.differ("a board less", x -> Sample.tellBoards(x, 32), x -> Sample.tellBoards(x, 31));
    }

    private static void boardsAreToldApart() {
        changes("a board", x -> x.board());
        for (int board = 0; board < 8; board++) {
            int b = board;
            changes("a row of board " + b, x -> x.row(b, 7));
            changes("a row of 0 of board " + b, x -> x.row(b, 0));
            changes("an echo of board " + b, x -> x.echo(b, 3, 3));
            changes("knots of board " + b, x -> x.knots(b, 0.625));
        }
        changes("an echo of 0", x -> x.echo(0, 0, 0));
        for (int b : new int[] {4, 6, 7}) {
            changes("broken board " + b, x -> x.broken(b, 3));
            Twins.differ("two strengths of board " + b, x -> {
                Sample.tellMuch(x);
                x.broken(b, 18);
            }, x -> {
                Sample.tellMuch(x);
                x.broken(b, 21);
            });
        }
        changes("a proof", x -> x.proof(8));
        changes("a proof of a board that is not complete", x -> {
            x.broken(6, 2);
            x.proof(3);
        });
    }

    private static void fitsAndLimitsAreToldApart() {
        Twins.differ("a fit", Sample::tellFour, x -> {
            Sample.tellFour(x);
            x.fit();
        });
        for (int cls = 0; cls < 4; cls++) {
            int c = cls;
            changes("limit 6 of class " + c, x -> x.limit(c, 6));
            changes("limit 0 of class " + c, x -> x.limit(c, 0));
        }
    }

    private static void chartsAreToldApart() {
        changes("a good test", x -> x.test(false));
        changes("a bad test", x -> x.test(true));
        changes("the same chart again", x -> x.chart(4, 1));
        Twins.Told first = x -> x.chart(10, 1);
        for (int[] other : new int[][] {{9, 1}, {11, 1}, {10, 0}, {10, 2}}) {
            Twins.differ("chart(" + other[0] + ", " + other[1] + ")", first, x -> x.chart(other[0], other[1]));
        }
    }

    private static void referencesAreToldApart() {
        changes("a reference", x -> x.reference(10, 0));
        changes("a reference on the last day", x -> x.reference(10000, -3));
        Twins.differ("a reference of 0", x -> { }, x -> x.reference(0, 0));
        Twins.differ("two references of 0", x -> { }, x -> {
            x.reference(0, 0);
            x.reference(1, 0);
        });
    }
}
