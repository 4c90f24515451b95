/** Promise 18: references, each day behind the one before. */
public final class ReferenceTest {
    public static void main(String[] args) {
        referencesAreCounted();
        leastAndGreatestDaysAreTaken();
        daysBeyondAreRefused();
        nextDayIsTaken();
        dayNotBehindIsRefused();
        noDayIsBehindTheLast();
        leastAndGreatestValuesAreTaken();
        valuesBeyondAreRefused();
        seventeenthIsRefused();
        orderOfExceptions();
        Due.end();
    }

    private static void tellSixteen(StrengthRows x) {
        for (int i = 0; i < 16; i++) {
            x.reference(i, 1 + i * i);
        }
    }

    private static void referencesAreCounted() {
        StrengthRows x = new StrengthRows(1);
        for (int i = 0; i < 16; i++) {
            Due.isLong("reference", x.reference(i * 3, i), i + 1);
        }
        for (int i = 0; i < 16; i++) {
            Due.is("drift on its day", x.drift(i * 3), i);
        }
    }

    private static void leastAndGreatestDaysAreTaken() {
        StrengthRows x = new StrengthRows(1);
        Due.isLong("day 0", x.reference(0, 3), 1);
        Due.isLong("day 9999", x.reference(9999, 4), 2);
        Due.isLong("day 10000", x.reference(10000, 5), 3);
        Due.is("drift(0)", x.drift(0), 3);
        Due.is("drift(10000)", x.drift(10000), 5);
        StrengthRows y = new StrengthRows(1);
        Due.isLong("day 10000 first", y.reference(10000, 5), 1);
    }

    private static void daysBeyondAreRefused() {
        for (int day : Beyond.ints(0, 10000)) {
            Twins.refuse("reference(" + day + ", 1), the first", Due.ARGUMENT, x -> { }, x -> x.reference(day, 1));
            Twins.refuse("reference(" + day + ", 1)", Due.ARGUMENT, Sample::tellMuch, x -> x.reference(day, 1));
        }
    }

    private static void nextDayIsTaken() {
        StrengthRows x = new StrengthRows(1);
        x.reference(0, 1);
        Due.isLong("day 1 behind day 0", x.reference(1, 1), 2);
        Due.isLong("day 2 behind day 1", x.reference(2, 1), 3);
    }

    private static void dayNotBehindIsRefused() {
        for (int day : new int[] {9, 8, 7, 6, 5, 4, 0}) {
            Twins.refuse("day " + day + " behind day 9", Due.ARGUMENT, Sample::tellMuch, x -> x.reference(day, 1));
        }
        Twins.refuse("day 0 behind day 0", Due.ARGUMENT, x -> x.reference(0, 5), x -> x.reference(0, 6));
    }

    private static void noDayIsBehindTheLast() {
        for (int day : new int[] {0, 9999, 10000, 10001}) {
            Twins.refuse("day " + day + " behind day 10000", Due.ARGUMENT, x -> x.reference(10000, 5),
                    x -> x.reference(day, 1));
        }
    }

    private static void leastAndGreatestValuesAreTaken() {
        double[] values = {-1000, Math.nextUp(-1000.0), -Double.MIN_VALUE, -0.0, 0, Double.MIN_VALUE,
            Math.nextDown(1000.0), 1000};
        StrengthRows x = new StrengthRows(1);
        for (int i = 0; i < values.length; i++) {
            Due.isLong("reference of " + values[i], x.reference(i, values[i]), i + 1);
            Due.is("its drift", x.drift(i), values[i]);
        }
    }

    private static void valuesBeyondAreRefused() {
        for (double v : Beyond.doubles(-1000, 1000)) {
            Twins.refuse("reference(0, " + v + "), the first", Due.ARGUMENT, x -> { }, x -> x.reference(0, v));
            Twins.refuse("reference(15, " + v + ")", Due.ARGUMENT, Sample::tellMuch, x -> x.reference(15, v));
        }
    }

    private static void seventeenthIsRefused() {
        for (int day : new int[] {16, 17, 10000}) {
            for (double v : new double[] {-1000, 0, 1000}) {
                Twins.refuse("a 17th on day " + day, Due.STATE, ReferenceTest::tellSixteen, x -> x.reference(day, v));
            }
        }
        StrengthRows x = new StrengthRows(1);
        for (int i = 0; i < 15; i++) {
            x.reference(i, i);
        }
        Due.isLong("a 16th", x.reference(20, 20), 16);
        Due.fails("a 17th", Due.STATE, () -> x.reference(21, 21));
        Due.is("the 16th stays the last", x.drift(21), 20);
    }

    private static void refuseSeventeenth(int day, double v) {
        Twins.refuse("a 17th (" + day + ", " + v + ")", Due.ARGUMENT, ReferenceTest::tellSixteen,
                x -> x.reference(day, v));
    }

    private static void orderOfExceptions() {
        for (int day : Beyond.ints(0, 10000)) {
            refuseSeventeenth(day, 1);
        }
        for (int day : new int[] {0, 14, 15}) {
            refuseSeventeenth(day, 1);
        }
        for (double v : Beyond.doubles(-1000, 1000)) {
            refuseSeventeenth(16, v);
        }
        StrengthRows x = new StrengthRows(1);
        for (int i = 0; i < 16; i++) {
            x.reference(i < 15 ? i : 10000, i);
        }
        Due.fails("no day behind the 16th", Due.ARGUMENT, () -> x.reference(10000, 0));
    }
}
