/** Promise 19: the drift before, on, between and behind the references. */
public final class DriftTest {
    public static void main(String[] args) {
        withoutAnyItIsZero();
        withOneItIsItsValue();
        beforeTheFirst();
        behindTheLast();
        onTheDayItself();
        betweenTwo();
        betweenTheFarthest();
        betweenSixteen();
        reckonedFromTheLeft();
        daysBeyondAreRefused();
        asksOnly();
        Due.end();
    }

    private static StrengthRows told(int[] days, double[] values) {
        StrengthRows x = new StrengthRows(1);
        for (int i = 0; i < days.length; i++) {
            x.reference(days[i], values[i]);
        }
        return x;
    }

    private static StrengthRows four() {
        return told(new int[] {10, 14, 15, 25}, new double[] {4, -4, 100, 0.5});
    }

    private static void withoutAnyItIsZero() {
        StrengthRows x = new StrengthRows(1);
        for (int day : new int[] {0, 1, 5000, 9999, 10000}) {
            Due.is("drift(" + day + ")", x.drift(day), 0);
        }
    }

    private static void withOneItIsItsValue() {
        for (int told : new int[] {0, 1, 5000, 9999, 10000}) {
            StrengthRows x = new StrengthRows(1);
            x.reference(told, 7.5);
            for (int day : new int[] {0, 1, 4999, 5000, 5001, 9999, 10000}) {
                Due.is("drift(" + day + "), one on day " + told, x.drift(day), 7.5);
            }
        }
    }

    private static void beforeTheFirst() {
        StrengthRows x = four();
        for (int day = 0; day <= 10; day++) {
            Due.is("drift(" + day + ")", x.drift(day), 4);
        }
        Due.isTrue("drift(11) is another one", x.drift(11) != 4);
    }

    private static void behindTheLast() {
        StrengthRows x = four();
        Due.isTrue("drift(24) is another one", x.drift(24) != 0.5);
        for (int day : new int[] {25, 26, 27, 5000, 9999, 10000}) {
            Due.is("drift(" + day + ")", x.drift(day), 0.5);
        }
    }

    private static void onTheDayItself() {
        StrengthRows x = four();
        Due.is("on the first", x.drift(10), 4);
        Due.is("on the second", x.drift(14), -4);
        Due.is("on the third", x.drift(15), 100);
        Due.is("on the last", x.drift(25), 0.5);
        StrengthRows y = told(new int[] {0, 1, 2}, new double[] {0.1, 0.7, -0.3});
        Due.is("on day 0", y.drift(0), 0.1);
        Due.is("on the next day", y.drift(1), 0.7);
        Due.is("on the day behind it", y.drift(2), -0.3);
    }

    private static void betweenTwo() {
        StrengthRows x = four();
        Due.is("a quarter", x.drift(11), 2);
        Due.is("a half", x.drift(12), 0);
        Due.is("three quarters", x.drift(13), -2);
        Due.is("the first day of ten", x.drift(16), 100 + 1 * (0.5 - 100.0) / 10);
        Due.is("the last day of ten", x.drift(24), 100 + 9 * (0.5 - 100.0) / 10);
    }

    private static void betweenTheFarthest() {
        StrengthRows x = told(new int[] {0, 10000}, new double[] {-1000, 1000});
        for (int day : new int[] {0, 1, 2, 4999, 5000, 5001, 9998, 9999, 10000}) {
            Due.is("drift(" + day + ")", x.drift(day), -1000 + day * 2000.0 / 10000);
        }
    }

    private static void betweenSixteen() {
        StrengthRows x = new StrengthRows(1);
        for (int i = 0; i < 16; i++) {
            x.reference(2 + i * 4, i * i);
        }
        Due.is("before the first", x.drift(1), 0);
        for (int i = 0; i < 15; i++) {
            double step = (i + 1) * (i + 1) - i * i;
            for (int gone = 0; gone < 4; gone++) {
                Due.is("drift " + gone + " behind " + i, x.drift(2 + i * 4 + gone), i * i + gone * step / 4);
            }
        }
        Due.is("on the last", x.drift(62), 225);
        Due.is("behind the last", x.drift(63), 225);
    }

    private static void reckonedFromTheLeft() {
        double v0 = 0.1;
        double v1 = 0.7;
        StrengthRows x = told(new int[] {3, 10}, new double[] {v0, v1});
        for (int day = 4; day < 10; day++) {
            double gone = day - 3;
            Due.is("drift(" + day + ")", x.drift(day), v0 + gone * (v1 - v0) / 7.0);
        }
    }

    private static void daysBeyondAreRefused() {
        for (int day : Beyond.ints(0, 10000)) {
            Twins.refuse("drift(" + day + ") without any", Due.ARGUMENT, x -> { }, x -> x.drift(day));
            Twins.refuse("drift(" + day + ")", Due.ARGUMENT, Sample::tellMuch, x -> x.drift(day));
        }
    }

    private static void asksOnly() {
        for (int day : new int[] {0, 5, 7, 9, 10000}) {
            Twins.stay("drift(" + day + ")", Sample::tellMuch, x -> x.drift(day));
        }
    }
}
