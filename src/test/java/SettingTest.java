/** Promises 11 and 12: limits of classes and their settings. The sample's strengths are 5, 7, 9, 11, as foretold. */
public final class SettingTest {
    public static void main(String[] args) {
        firstLimitIsSixteen();
        limitsAreOfOneClass();
        sharesAreExact();
        lastStepAndNone();
        outAndUnbrokenBoards();
        limitRefuses();
        settingRefuses();
        Due.end();
    }

    private static StrengthRows fitted() {
        StrengthRows x = Sample.four();
        x.fit();
        return x;
    }

    private static void firstLimitIsSixteen() {
        StrengthRows x = Sample.withBoards(0);
        Sample.complete(x, 1, 0);
        Sample.complete(x, 1, 0);
        x.broken(0, 16);
        x.broken(1, 16);
        x.fit();
        for (int cls = 0; cls < 4; cls++) {
            Due.isLong("strengths of 16 are not below", x.setting(cls, 0, 1), 0);
        }
        StrengthRows y = Sample.withBoards(0);
        Sample.complete(y, 1, 0);
        y.broken(0, Math.nextDown(16.0));
        y.fit();
        for (int cls = 0; cls < 4; cls++) {
            Due.isLong("a strength just below 16", y.setting(cls, 0, 1), 64);
        }
    }

    private static void limitsAreOfOneClass() {
        StrengthRows x = fitted();
        x.limit(0, 7);
        x.limit(1, 0);
        x.limit(2, 1000);
        x.limit(3, 9);
        Due.isLong("limit 7: 5 is weak", x.setting(0, 0, 1), 21);
        Due.isLong("limit 0: none is weak", x.setting(1, 0, 1), 0);
        Due.isLong("limit 1000: all are weak", x.setting(2, 0, 1), 45);
        Due.isLong("limit 9: 5 and 7 are weak", x.setting(3, 0, 1), 29);
    }

    private static void sharesAreExact() {
        StrengthRows x = fitted();
        x.limit(0, 7);
        Due.isLong("1 of 4 is a quarter", x.setting(0, 1, 4), 0);
        Due.isLong("1 of 4 is more than a fifth", x.setting(0, 1, 5), 21);
        Due.isLong("1 of 4 is 250 of 1000", x.setting(0, 250, 1000), 0);
        Due.isLong("1 of 4 is more than 249 of 1000", x.setting(0, 249, 1000), 21);
        x.limit(0, 9);
        Due.isLong("2 of 4 is a half", x.setting(0, 1, 2), 0);
        Due.isLong("1 of 3 is a third", x.setting(0, 1, 3), 21);
        Due.isLong("1 of 3 is more than 333 of 1000", x.setting(0, 333, 1000), 29);
        Due.isLong("all may be weak", x.setting(0, 1, 1), 0);
    }

    private static void lastStepAndNone() {
        StrengthRows x = fitted();
        x.limit(0, 0);
        x.limit(1, 6);
        x.echo(0, 4, 2.859375);
        Due.is("foretold(0)", x.foretold(0), 49.75);
        Due.isLong("the last step", x.setting(1, 0, 1), 200);
        x.echo(0, 4, 2.875);
        Due.is("foretold(0)", x.foretold(0), 50);
        Due.isLong("no step", x.setting(1, 0, 1), StrengthRows.NONE);
        Due.isLong("no weak board", x.setting(0, 0, 1), 0);
        Due.isLong("any share", x.setting(1, 1, 1), 0);
    }

    private static void outAndUnbrokenBoards() {
        StrengthRows x = fitted();
        x.limit(0, 7);
        Due.isLong("one goes out", x.proof(6), 1);
        Due.isLong("a board that is out counts", x.setting(0, 0, 1), 21);
        Sample.complete(x, 20, 0);
        int incomplete = x.board();
        x.row(incomplete, 400);
        x.broken(incomplete, 1);
        Due.isLong("boards not broken or not complete do not count", x.setting(0, 1, 4), 0);
        Due.isLong("they do not count", x.setting(0, 0, 1), 21);

        StrengthRows before = Sample.four();
        before.limit(0, 7);
        Due.isLong("before a fit all are foretold 0", before.setting(0, 0, 1), 1);
        Due.isLong("before a fit, a quarter", before.setting(0, 1, 4), 0);
    }

    private static void limitRefuses() {
        StrengthRows x = fitted();
        x.limit(0, 7);
        for (double limit : new double[] {-1, -Double.MIN_VALUE, Math.nextUp(1000.0), 0.0 / 0.0, 1 / 0.0}) {
            Due.fails("limit(0, " + limit + ")", Due.ARGUMENT, () -> x.limit(0, limit));
        }
        for (int cls : new int[] {-1, 4, Integer.MIN_VALUE, Integer.MAX_VALUE}) {
            Due.fails("limit(" + cls + ", 1)", Due.INDEX, () -> x.limit(cls, 1));
            Due.fails("limit(" + cls + ", -1)", Due.INDEX, () -> x.limit(cls, -1));
        }
        Due.isLong("the limit as before", x.setting(0, 0, 1), 21);
    }

    private static void settingRefuses() {
        StrengthRows x = fitted();
        for (int cls : new int[] {-1, 4, Integer.MIN_VALUE, Integer.MAX_VALUE}) {
            Due.fails("setting(" + cls + ", 1, 1)", Due.INDEX, () -> x.setting(cls, 1, 1));
            Due.fails("setting(" + cls + ", 1, 0)", Due.INDEX, () -> x.setting(cls, 1, 0));
        }
        Due.fails("below 0", Due.ARGUMENT, () -> x.setting(0, 0, 0));
        Due.fails("below -1", Due.ARGUMENT, () -> x.setting(0, -1, -1));
        Due.fails("below 1001", Due.ARGUMENT, () -> x.setting(0, 1, 1001));
        Due.fails("above 2 of 1", Due.ARGUMENT, () -> x.setting(0, 2, 1));
        Due.fails("above -1", Due.ARGUMENT, () -> x.setting(0, -1, 5));
        Due.isLong("above 1000 of 1000", x.setting(0, 1000, 1000), 0);
    }
}
