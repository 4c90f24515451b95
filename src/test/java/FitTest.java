/** Promises 7 and 8: least squares, their RANK and their numbers. */
public final class FitTest {
    private static final double EDGE = 1.0 / (1 << 20);

    public static void main(String[] args) {
        exactNumbers();
        sumsGoByTheNumbersOfBoards();
        allBoardsCount();
        onlyCompleteBrokenBoardsCount();
        outBoardsCount();
        rankZeroOfNone();
        rankOneOfOne();
        sameX1IsPassedOver();
        sameX2IsPassedOver();
        secondPivotEdge();
        thirdPivotEdge();
        sizeOfAPivotBelowZero();
        passedOverColumnLessensNoRow();
        laterFitForgetsNumbers();
        numbersAreOfTheLatestFit();
        noSuchNumber();
        asksOnly();
        Due.end();
    }

    private static void numbers(String what, StrengthRows x, double c0, double c1, double c2) {
        Due.is(what + ": number(0)", x.number(0), c0);
        Due.is(what + ": number(1)", x.number(1), c1);
        Due.is(what + ": number(2)", x.number(2), c2);
    }

    /** A board more, COMPLETE and BROKEN, with that X1 and that X2 to the last bit (X1 is 0 by the least ECHO). */
    private static void tell(StrengthRows x, double x1, double x2, double strength) {
        int board = x.board();
        x.row(board, 0);
        x.echo(board, 1, x1 > 0 ? x1 * 2 : Double.MIN_VALUE);
        x.knots(board, 1 - x2);
        x.broken(board, strength);
    }

    private static void exactNumbers() {
        StrengthRows x = Sample.four();
        numbers("before a fit", x, 0, 0, 0);
        Due.isLong("fit", x.fit(), 3);
        numbers("four boards", x, 1, 2, 4);
        Due.isLong("fit again", x.fit(), 3);
        numbers("four boards again", x, 1, 2, 4);
    }

    private static void sumsGoByTheNumbersOfBoards() {
        StrengthRows x = new StrengthRows(1);
        double[] strengths = {1000, 5e-14, 5e-14, 5e-14, 5e-14};
        double sum = 0;
        for (double strength : strengths) {
            tell(x, 1, 1, strength);
            sum = sum + strength;
        }
        Due.isTrue("another order has another sum", 1000 + (5e-14 + 5e-14 + 5e-14 + 5e-14) != sum);
        Due.isLong("fit", x.fit(), 1);
        Due.is("the mean strength", x.number(0), sum / 5);
    }

    private static void allBoardsCount() {
        StrengthRows x = new StrengthRows(1);
        for (int i = 0; i < 32; i++) {
            tell(x, 1, 1, i == 0 ? 64 : i == 31 ? 32 : 0);
        }
        Due.isLong("fit of 32 boards", x.fit(), 1);
        numbers("32 boards", x, 3, 0, 0);
    }

    private static void onlyCompleteBrokenBoardsCount() {
        StrengthRows x = Sample.four();
        int withoutEcho = x.board();
        x.row(withoutEcho, 500);
        x.broken(withoutEcho, 3);
        int withoutRow = x.board();
        x.echo(withoutRow, 7, 7);
        x.broken(withoutRow, 900);
        int bare = x.board();
        x.broken(bare, 70);
        Sample.complete(x, 77, 0.75);
        Due.isLong("fit", x.fit(), 3);
        numbers("the others do not count", x, 1, 2, 4);
    }

    private static void outBoardsCount() {
        StrengthRows x = Sample.four();
        Due.isLong("three boards go out", x.proof(10), 3);
        Due.isLong("fit", x.fit(), 3);
        numbers("boards that are out count", x, 1, 2, 4);
    }

    private static void rankZeroOfNone() {
        StrengthRows none = new StrengthRows(1);
        Due.isLong("no board: rank", none.fit(), 0);
        numbers("no board", none, 0, 0, 0);

        StrengthRows bare = Sample.withBoards(32);
        Due.isLong("bare boards: rank", bare.fit(), 0);
        numbers("bare boards", bare, 0, 0, 0);

        StrengthRows whole = new StrengthRows(1);
        Sample.complete(whole, 2, 0.5);
        Due.isLong("a complete board, not broken: rank", whole.fit(), 0);
        numbers("a complete board, not broken", whole, 0, 0, 0);
        whole.echo(0, 0, 0);
        whole.broken(0, 9);
        Due.isLong("a broken board, not complete: rank", whole.fit(), 0);
        numbers("a broken board, not complete", whole, 0, 0, 0);
    }

    private static void rankOneOfOne() {
        StrengthRows one = new StrengthRows(1);
        Sample.complete(one, 3, 0.5);
        one.broken(0, 8);
        Due.isLong("one board: rank", one.fit(), 1);
        numbers("one board", one, 8, 0, 0);
    }

    private static void sameX1IsPassedOver() {
        StrengthRows x = new StrengthRows(1);
        tell(x, 4, 0.5, 8);
        tell(x, 4, 1, 12);
        Due.isLong("X1 all the same: rank", x.fit(), 2);
        numbers("X1 all the same", x, 4, 0, 8);
    }

    private static void sameX2IsPassedOver() {
        StrengthRows x = new StrengthRows(1);
        tell(x, 2, 0.5, 8);
        tell(x, 4, 0.5, 12);
        Due.isLong("X2 all the same: rank", x.fit(), 2);
        numbers("X2 all the same", x, 4, 2, 0);
    }

    /** Two boards with X1 = 0 and two with X1 = a: behind the first column S(1, 1) is a * a, without rounding. */
    private static int rankOfX1(double a) {
        StrengthRows x = new StrengthRows(1);
        for (int i = 0; i < 4; i++) {
            tell(x, i < 2 ? 0 : a, 1, 10);
        }
        return x.fit();
    }

    private static void secondPivotEdge() {
        double edge = 1.0 / 1024;
        double below = Math.nextDown(edge);
        Due.isTrue("the edge is 2^-20", edge * edge == EDGE && below * below < EDGE);
        Due.isLong("a pivot of 2^-20", rankOfX1(edge), 2);
        Due.isLong("a pivot just below 2^-20", rankOfX1(below), 1);
        Due.isLong("a pivot just above 2^-20", rankOfX1(Math.nextUp(edge)), 2);
    }

    /** As above with X2, the two of X1 being apart by 2. */
    private static int rankOfX2(double a) {
        StrengthRows x = new StrengthRows(1);
        for (int i = 0; i < 4; i++) {
            tell(x, i % 2 == 0 ? 1 : 3, i < 2 ? 0 : a, 10);
        }
        return x.fit();
    }

    private static void thirdPivotEdge() {
        double edge = 1.0 / 1024;
        double ulp = Math.ulp(0.5);
        Due.isLong("a pivot of 2^-20", rankOfX2(edge), 3);
        Due.isLong("a pivot just below 2^-20", rankOfX2(edge - ulp), 2);
        Due.isLong("a pivot just above 2^-20", rankOfX2(edge + ulp), 3);
    }

    /** Three boards with X1 the same: behind the first column S(1, 1) is what rounding leaves, at times below 0. */
    private static StrengthRows threeAlike(double stiff, double hertz, double density) {
        StrengthRows x = new StrengthRows(1);
        for (int i = 0; i < 3; i++) {
            x.board();
            x.row(i, stiff);
            x.echo(i, hertz, density);
            x.knots(i, 1);
            x.broken(i, 10 + i);
        }
        return x;
    }

    private static double pivotOfThreeAlike(double x1) {
        double products = 0.0 + x1 * x1 + x1 * x1 + x1 * x1;
        double sum = 0.0 + x1 + x1 + x1;
        return products - sum / 3.0 * sum;
    }

    private static void sizeOfAPivotBelowZero() {
        Due.is("this pivot is -2^-20", pivotOfThreeAlike((1000 + 10 * 99.6 * 99.6) / 2), -EDGE);
        Due.isLong("a pivot of -2^-20: rank", threeAlike(1000, 99.6, 10).fit(), 2);

        double great = (1000 + 10 * 99.9 * 99.9) / 2;
        Due.isTrue("this pivot is below -2^-20", pivotOfThreeAlike(great) < -EDGE);
        StrengthRows x = threeAlike(1000, 99.9, 10);
        Due.isLong("a pivot below -2^-20: rank", x.fit(), 2);
        double sum = 0.0 + great + great + great;
        double targets = 0.0 + great * 10.0 + great * 11.0 + great * 12.0;
        double c1 = (targets - sum / 3.0 * 33.0) / pivotOfThreeAlike(great);
        numbers("a pivot below -2^-20", x, (33.0 - sum * c1 - 0.0) / 3.0, c1, 0);

        double small = 2.4 * 2.4 / 2;
        Due.isTrue("this pivot is of a small size", pivotOfThreeAlike(small) < 0 && pivotOfThreeAlike(small) > -EDGE);
        Due.isLong("a pivot of a small size below 0: rank", threeAlike(0, 2.4, 1).fit(), 1);
    }

    /** S(1, 1) becomes 2^-23. Lessened by it, S(2, 2) would be 0. */
    private static void passedOverColumnLessensNoRow() {
        StrengthRows x = new StrengthRows(1);
        tell(x, 0, 0.5, 8);
        tell(x, 1.0 / 2048, 1, 12);
        Due.isLong("X1 nearly the same: rank", x.fit(), 2);
        numbers("X1 nearly the same", x, 4, 0, 8);
    }

    private static void laterFitForgetsNumbers() {
        StrengthRows x = Sample.four();
        Due.isLong("fit", x.fit(), 3);
        for (int board = 0; board < 4; board++) {
            x.knots(board, 0.5);
        }
        Due.isLong("X2 is now the same: rank", x.fit(), 2);
        numbers("X2 is now the same", x, 4, 2, 0);
        x.echo(2, 0, 0);
        x.echo(3, 0, 0);
        Due.isLong("X1 is now the same: rank", x.fit(), 1);
        numbers("X1 is now the same", x, 6, 0, 0);
        x.echo(0, 0, 0);
        x.echo(1, 0, 0);
        Due.isLong("no board is left: rank", x.fit(), 0);
        numbers("no board is left", x, 0, 0, 0);
    }

    private static void numbersAreOfTheLatestFit() {
        StrengthRows x = Sample.four();
        x.fit();
        x.knots(0, 1);
        x.row(1, 100);
        x.echo(2, 9, 9);
        Sample.complete(x, 9, 0.125);
        x.broken(4, 999);
        x.proof(500);
        numbers("without another fit", x, 1, 2, 4);
        x.fit();
        Due.isTrue("another fit has other numbers", x.number(0) != 1 && x.number(1) != 2 && x.number(2) != 4);
    }

    private static void noSuchNumber() {
        for (int k : Beyond.ints(0, 2)) {
            Twins.refuse("number(" + k + ") before a fit", Due.INDEX, x -> { }, x -> x.number(k));
            Twins.refuse("number(" + k + ")", Due.INDEX, Sample::tellMuch, x -> x.number(k));
        }
    }

    private static void asksOnly() {
        for (int k = 0; k <= 2; k++) {
            int asked = k;
            Twins.stay("number(" + k + ")", Sample::tellMuch, x -> x.number(asked));
        }
    }
}
