/** Promise 11: the LIMIT of each class. */
public final class LimitTest {
    public static void main(String[] args) {
        firstLimitIsSixteen();
        limitsAreOfOneClass();
        leastAndGreatestAreTaken();
        beyondThemIsRefused();
        laterLimitReplaces();
        noSuchClass();
        orderOfExceptions();
        Due.end();
    }

    /** Whether a board is weak by the limit. Before a fit it is foretold 0, so that step 1 is the first without it. */
    private static void weak(String what, double strength, double limit, boolean due) {
        for (int cls = 0; cls < 4; cls++) {
            StrengthRows x = Sample.one(strength);
            x.limit(cls, limit);
            Due.isLong(what + ", class " + cls, x.setting(cls, 0, 1), due ? 1 : 0);
        }
    }

    private static void firstLimitIsSixteen() {
        for (int cls = 0; cls < 4; cls++) {
            Due.isLong("a strength of 16 is not below", Sample.one(16).setting(cls, 0, 1), 0);
            Due.isLong("a strength just below 16", Sample.one(Math.nextDown(16.0)).setting(cls, 0, 1), 1);
        }
    }

    private static void limitsAreOfOneClass() {
        StrengthRows x = Sample.four();
        x.fit();
        x.limit(0, 7);
        x.limit(1, 0);
        x.limit(2, 1000);
        x.limit(3, 9);
        Due.isLong("limit 7: 5 is weak", x.setting(0, 0, 1), 21);
        Due.isLong("limit 0: none is weak", x.setting(1, 0, 1), 0);
        Due.isLong("limit 1000: all are weak", x.setting(2, 0, 1), 45);
        Due.isLong("limit 9: 5 and 7 are weak", x.setting(3, 0, 1), 29);
    }

    private static void leastAndGreatestAreTaken() {
        weak("limit 0, strength 0", 0, 0, false);
        weak("limit -0, strength 0", 0, -0.0, false);
        weak("the least limit above 0, strength 0", 0, Double.MIN_VALUE, true);
        weak("limit 1000, strength 1000", 1000, 1000, false);
        weak("limit 1000, a strength just below", Math.nextDown(1000.0), 1000, true);
        weak("a limit just below 1000, the same strength", Math.nextDown(1000.0), Math.nextDown(1000.0), false);
    }

    private static void beyondThemIsRefused() {
        for (double limit : Beyond.doubles(0, 1000)) {
            for (int cls : new int[] {0, 3}) {
                Twins.refuse("limit(" + cls + ", " + limit + ")", Due.ARGUMENT, Sample::tellMuch,
                        x -> x.limit(cls, limit));
            }
            Twins.refuse("limit(1, " + limit + ") without boards", Due.ARGUMENT, x -> { }, x -> x.limit(1, limit));
        }
    }

    private static void laterLimitReplaces() {
        Twins.alike("the latest limit counts", x -> {
            Sample.tellMuch(x);
            x.limit(2, 1000);
            x.limit(2, 10);
        }, x -> {
            Sample.tellMuch(x);
            x.limit(2, 10);
        });
    }

    private static void noSuchClass() {
        for (int cls : Beyond.ints(0, 3)) {
            for (double limit : new double[] {0, 10, 1000}) {
                Twins.refuse("limit(" + cls + ", " + limit + ")", Due.INDEX, Sample::tellMuch,
                        x -> x.limit(cls, limit));
            }
        }
    }

    private static void orderOfExceptions() {
        for (int cls : Beyond.ints(0, 3)) {
            for (double limit : Beyond.doubles(0, 1000)) {
                Twins.refuse("limit(" + cls + ", " + limit + ")", Due.INDEX, Sample::tellMuch,
                        x -> x.limit(cls, limit));
            }
        }
    }
}
