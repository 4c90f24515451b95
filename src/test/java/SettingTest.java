/** Promise 12: settings of classes. The sample's strengths are 5, 7, 9, 11, as foretold. */
public final class SettingTest {
    public static void main(String[] args) {
        sharesAreExact();
        sharesOfAllBoards();
        leastStepIsAnswered();
        foretoldOfTheStepCounts();
        foretoldBelowZeroCountsAtNoStep();
        lastStepAndNone();
        noBoardsAreFew();
        outAndUnbrokenBoards();
        settingIsByLatestFit();
        shareLimitsAreTaken();
        beyondThemIsRefused();
        noSuchClass();
        asksOnly();
        Due.end();
    }

    private static StrengthRows fitted() {
        StrengthRows x = Sample.four();
        x.fit();
        return x;
    }

    private static void sharesAreExact() {
        StrengthRows x = fitted();
        x.limit(0, 7);
        Due.isLong("1 of 4 is a quarter", x.setting(0, 1, 4), 0);
        Due.isLong("1 of 4 is more than a fifth", x.setting(0, 1, 5), 21);
        Due.isLong("1 of 4 is 250 of 1000", x.setting(0, 250, 1000), 0);
        Due.isLong("1 of 4 is more than 249 of 1000", x.setting(0, 249, 1000), 21);
        x.limit(0, 9);
        Due.isLong("2 of 4 is a half", x.setting(0, 1, 2), 0);
        Due.isLong("1 of 3 is a third", x.setting(0, 1, 3), 21);
        Due.isLong("1 of 3 is more than 333 of 1000", x.setting(0, 333, 1000), 29);
        Due.isLong("1 of 3 is less than 334 of 1000", x.setting(0, 334, 1000), 21);
        Due.isLong("all may be weak", x.setting(0, 1, 1), 0);
    }

    private static void sharesOfAllBoards() {
        StrengthRows x = new StrengthRows(1);
        for (int i = 0; i < 32; i++) {
            Sample.complete(x, 1, 0);
            x.broken(i, i == 0 || i == 31 ? 3 : 20);
        }
        Due.isLong("2 of 32", x.setting(0, 2, 32), 0);
        Due.isLong("2 of 32 is less than 63 of 1000", x.setting(0, 63, 1000), 0);
        Due.isLong("2 of 32 is more than 62 of 1000", x.setting(0, 62, 1000), 1);
        x.limit(0, 1000);
        Due.isLong("32 of 32", x.setting(0, 1000, 1000), 0);
        Due.isLong("32 of 32 is more than 999 of 1000", x.setting(0, 999, 1000), 1);
    }

    /** Weak are 1 or 2 of 4 at step 0, 1 of 3 from 29 on, 1 of 2 from 37, 1 of 1 from 45, and none from 77. */
    private static void leastStepIsAnswered() {
        StrengthRows x = fitted();
        x.echo(0, 2, 3.75);
        Due.is("the weak board is foretold 19", x.foretold(0), 19);
        x.limit(0, 6);
        Due.isLong("a quarter at step 0, more behind it", x.setting(0, 1, 4), 0);
        Due.isLong("a fifth only behind them all", x.setting(0, 1, 5), 77);
        x.limit(0, 8);
        Due.isLong("a half at step 0", x.setting(0, 1, 2), 0);
        Due.isLong("a third at step 29, more behind it", x.setting(0, 1, 3), 29);
        Due.isLong("a quarter only behind them all", x.setting(0, 1, 4), 77);
    }

    /** One board is foretold its own strength: the next step is the first that is without it. */
    private static void stepBehind(double strength, int step) {
        StrengthRows x = Sample.one(strength);
        x.limit(2, 1000);
        x.fit();
        Due.is("foretold", x.foretold(0), strength);
        Due.isLong("the step behind " + strength, x.setting(2, 0, 1), step);
    }

    private static void foretoldOfTheStepCounts() {
        stepBehind(0, 1);
        stepBehind(Double.MIN_VALUE, 1);
        for (int k = 1; k < 200; k++) {
            stepBehind(Math.nextDown(k / 4.0), k);
            stepBehind(k / 4.0, k + 1);
        }
        stepBehind(Math.nextDown(50.0), 200);
        stepBehind(50, StrengthRows.NONE);
        stepBehind(Math.nextUp(50.0), StrengthRows.NONE);
        stepBehind(999, StrengthRows.NONE);
    }

    /** C is 10, -2, 0; board 0 is weak, board 1 is not. */
    private static void foretoldBelowZeroCountsAtNoStep() {
        StrengthRows x = new StrengthRows(1);
        Sample.complete(x, 3, 0);
        Sample.complete(x, 1, 0);
        x.broken(0, 4);
        x.broken(1, 8);
        x.fit();
        x.limit(0, 6);
        x.row(0, 13);
        Due.is("foretold(0)", x.foretold(0), 0);
        Due.isLong("0 is at least 0", x.setting(0, 0, 1), 1);
        double little = 1.0 / (1L << 48);
        x.echo(0, 1, 1 + little);
        Due.is("foretold(0)", x.foretold(0), -little);
        Due.isLong("just below 0 is not", x.setting(0, 0, 1), 0);
        x.row(0, 1000);
        Due.isTrue("foretold(0) is far below 0", x.foretold(0) < -300);
        Due.isLong("far below 0 is not", x.setting(0, 0, 1), 0);
    }

    private static void lastStepAndNone() {
        StrengthRows x = fitted();
        x.limit(0, 0);
        x.limit(1, 6);
        x.echo(0, 4, 2.859375);
        Due.is("foretold(0)", x.foretold(0), 49.75);
        Due.isLong("the last step", x.setting(1, 0, 1), 200);
        x.echo(0, 4, 2.875);
        Due.is("foretold(0)", x.foretold(0), 50);
        Due.isLong("no step", x.setting(1, 0, 1), StrengthRows.NONE);
        Due.isLong("no weak board", x.setting(0, 0, 1), 0);
        Due.isLong("any share", x.setting(1, 1, 1), 0);
    }

    private static void noBoardsAreFew() {
        StrengthRows none = new StrengthRows(1);
        Due.isLong("no board at all", none.setting(0, 0, 1), 0);
        StrengthRows bare = Sample.withBoards(32);
        Due.isLong("bare boards", bare.setting(3, 0, 1000), 0);
        StrengthRows x = Sample.one(49.75);
        x.limit(0, 1000);
        x.fit();
        Due.isLong("none is left at the last step", x.setting(0, 0, 1), 200);
    }

    private static void outAndUnbrokenBoards() {
        StrengthRows x = fitted();
        x.limit(0, 7);
        Due.isLong("one goes out", x.proof(6), 1);
        Due.isLong("a board that is out counts", x.setting(0, 0, 1), 21);
        Sample.complete(x, 20, 0);
        int withoutEcho = x.board();
        x.row(withoutEcho, 400);
        x.broken(withoutEcho, 1);
        int withoutRow = x.board();
        x.echo(withoutRow, 10, 10);
        x.broken(withoutRow, 1);
        Due.isLong("boards not broken or not complete do not count", x.setting(0, 1, 4), 0);
        Due.isLong("they do not count", x.setting(0, 0, 1), 21);
        Due.isLong("they do not count as strong ones", x.setting(0, 249, 1000), 21);
    }

    private static void settingIsByLatestFit() {
        StrengthRows x = Sample.four();
        x.limit(0, 7);
        Due.isLong("before a fit all are foretold 0", x.setting(0, 0, 1), 1);
        Due.isLong("before a fit, a quarter", x.setting(0, 1, 4), 0);
        x.fit();
        Due.isLong("behind it", x.setting(0, 0, 1), 21);
        x.leftOut(0);
        Due.isLong("leaving out changes nothing", x.setting(0, 0, 1), 21);
        int late = Sample.complete(x, 5, 0.25);
        x.broken(late, 3);
        Due.isLong("a board behind the fit is foretold 14", x.setting(0, 0, 1), 57);
    }

    private static void shareLimitsAreTaken() {
        StrengthRows x = fitted();
        Due.isLong("0 of 1", x.setting(0, 0, 1), 45);
        Due.isLong("1 of 1", x.setting(0, 1, 1), 0);
        Due.isLong("0 of 1000", x.setting(0, 0, 1000), 45);
        Due.isLong("999 of 1000", x.setting(0, 999, 1000), 45);
        Due.isLong("1000 of 1000", x.setting(0, 1000, 1000), 0);
        for (int cls = 0; cls < 4; cls++) {
            Due.isLong("class " + cls, x.setting(cls, 0, 7), 45);
        }
    }

    private static void refuse(Class<? extends RuntimeException> want, int cls, int above, int below) {
        Twins.refuse("setting(" + cls + ", " + above + ", " + below + ")", want, Sample::tellMuch,
                x -> x.setting(cls, above, below));
    }

    private static void beyondThemIsRefused() {
        for (int below : Beyond.ints(1, 1000)) {
            for (int above : new int[] {0, 1, below}) {
                refuse(Due.ARGUMENT, 0, above, below);
            }
        }
        for (int below : new int[] {1, 2, 1000}) {
            for (int above : Beyond.ints(0, below)) {
                refuse(Due.ARGUMENT, 3, above, below);
            }
        }
        refuse(Due.ARGUMENT, 0, -1, -1);
        refuse(Due.ARGUMENT, 0, 2, 0);
    }

    private static void noSuchClass() {
        for (int cls : Beyond.ints(0, 3)) {
            refuse(Due.INDEX, cls, 1, 20);
            refuse(Due.INDEX, cls, 1, 0);
            refuse(Due.INDEX, cls, 1, 1001);
            refuse(Due.INDEX, cls, -1, 20);
            refuse(Due.INDEX, cls, 21, 20);
        }
    }

    private static void asksOnly() {
        for (int cls = 0; cls < 4; cls++) {
            int c = cls;
            Twins.stay("setting(" + c + ", 0, 1)", Sample::tellMuch, x -> x.setting(c, 0, 1));
        }
    }
}
