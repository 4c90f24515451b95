/** Promises 18 and 19: references and the drift between them. */
public final class DriftTest {
    public static void main(String[] args) {
        referencesAreCounted();
        referenceRefuses();
        driftBetween();
        driftIsReckonedAsTold();
        driftRefuses();
        Due.end();
    }

    private static void referencesAreCounted() {
        StrengthRows x = new StrengthRows(1);
        Due.isLong("day 0", x.reference(0, -1000), 1);
        for (int i = 1; i < 15; i++) {
            Due.isLong("reference", x.reference(i * 3, i), i + 1);
        }
        Due.isLong("the last day", x.reference(10000, 1000), 16);
        Due.fails("no day behind", Due.ARGUMENT, () -> x.reference(10000, 0));
        StrengthRows y = new StrengthRows(1);
        for (int i = 0; i < 16; i++) {
            y.reference(i, i);
        }
        Due.fails("a 17th", Due.STATE, () -> y.reference(16, 1));
        Due.fails("a 17th, wrong day", Due.ARGUMENT, () -> y.reference(15, 1));
        Due.fails("a 17th, wrong value", Due.ARGUMENT, () -> y.reference(16, 1001));
        Due.is("the last one stays", y.drift(16), 15);
    }

    private static void referenceRefuses() {
        StrengthRows x = new StrengthRows(1);
        Due.fails("day -1", Due.ARGUMENT, () -> x.reference(-1, 1));
        Due.fails("day 10001", Due.ARGUMENT, () -> x.reference(10001, 1));
        for (double v : new double[] {Math.nextUp(1000.0), -Math.nextUp(1000.0), 0.0 / 0.0, 1 / 0.0, -1 / 0.0}) {
            Due.fails("value " + v, Due.ARGUMENT, () -> x.reference(5, v));
        }
        Due.is("none was told", x.drift(5), 0);
        Due.isLong("reference(5, 2)", x.reference(5, 2), 1);
        Due.fails("the same day", Due.ARGUMENT, () -> x.reference(5, 3));
        Due.fails("a day before", Due.ARGUMENT, () -> x.reference(4, 3));
        Due.is("the first one stays", x.drift(5), 2);
        Due.isLong("reference(6, 3)", x.reference(6, 3), 2);
    }

    private static void driftBetween() {
        StrengthRows x = new StrengthRows(1);
        Due.is("without any", x.drift(7), 0);
        x.reference(10, 4);
        Due.is("before one alone", x.drift(0), 4);
        Due.is("on one alone", x.drift(10), 4);
        Due.is("behind one alone", x.drift(10000), 4);
        x.reference(14, -4);
        x.reference(15, 100);
        x.reference(25, 0);
        Due.is("before the first", x.drift(9), 4);
        Due.is("on the first", x.drift(10), 4);
        Due.is("a quarter", x.drift(11), 2);
        Due.is("a half", x.drift(12), 0);
        Due.is("three quarters", x.drift(13), -2);
        Due.is("on the second", x.drift(14), -4);
        Due.is("on the third", x.drift(15), 100);
        Due.is("down again", x.drift(16), 90);
        Due.is("on the last", x.drift(25), 0);
        Due.is("behind the last", x.drift(26), 0);
    }

    private static void driftIsReckonedAsTold() {
        StrengthRows x = new StrengthRows(1);
        double v0 = 0.1;
        double v1 = 0.7;
        x.reference(3, v0);
        x.reference(10, v1);
        for (int day = 4; day < 10; day++) {
            double gone = day - 3;
            Due.is("drift(" + day + ")", x.drift(day), v0 + gone * (v1 - v0) / 7.0);
        }
    }

    private static void driftRefuses() {
        StrengthRows x = new StrengthRows(1);
        for (int day : new int[] {-1, 10001, Integer.MIN_VALUE, Integer.MAX_VALUE}) {
            Due.fails("drift(" + day + ") without any", Due.ARGUMENT, () -> x.drift(day));
        }
        x.reference(5, 1);
        Due.fails("drift(-1)", Due.ARGUMENT, () -> x.drift(-1));
        Due.is("drift(0)", x.drift(0), 1);
        Due.is("drift(10000)", x.drift(10000), 1);
    }
}
