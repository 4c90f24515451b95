/** Promise 13: every share and every number of trials against a count by dynamic programming in big integers. */
public final class OddsTest {
    public static void main(String[] args) {
        knownOdds();
        noTrials();
        asManyAsTrialsOrMore();
        noneFailsOrAllFail();
        greatestAreTaken();
        withoutCommonDivisor();
        allOdds();
        noSuchPart();
        nBeyondIsRefused();
        mBeyondIsRefused();
        belowBeyondIsRefused();
        aboveBeyondIsRefused();
        orderOfExceptions();
        asksOnly();
        Due.end();
    }

    private static void odds(int n, int m, int above, int below, long numerator, long denominator) {
        StrengthRows x = new StrengthRows(1);
        String call = "odds(" + n + ", " + m + ", " + above + ", " + below + ", ";
        Due.isLong(call + "0)", x.odds(n, m, above, below, 0), numerator);
        Due.isLong(call + "1)", x.odds(n, m, above, below, 1), denominator);
    }

    private static void knownOdds() {
        odds(2, 0, 1, 2, 1, 4);
        odds(2, 1, 1, 2, 3, 4);
        odds(2, 2, 1, 2, 1, 1);
        odds(3, 1, 2, 6, 20, 27);
    }

    private static void noTrials() {
        odds(0, 0, 5, 7, 1, 1);
        odds(0, 12, 0, 1, 1, 1);
        odds(0, 0, 1, 1, 1, 1);
        odds(0, Integer.MAX_VALUE, 16, 16, 1, 1);
    }

    private static void asManyAsTrialsOrMore() {
        odds(5, 4, 1, 3, 242, 243);
        for (int m : new int[] {5, 6, 12, 13, 63, 64, 1 << 30, Integer.MAX_VALUE}) {
            odds(5, m, 1, 3, 1, 1);
        }
        odds(12, Integer.MAX_VALUE, 15, 16, 1, 1);
    }

    private static void noneFailsOrAllFail() {
        odds(5, 4, 3, 3, 0, 1);
        odds(5, 5, 3, 3, 1, 1);
        odds(5, 0, 0, 3, 1, 1);
        odds(1, 0, 1, 1, 0, 1);
        odds(1, 0, 0, 1, 1, 1);
        odds(12, 11, 16, 16, 0, 1);
        odds(12, 12, 16, 16, 1, 1);
        odds(12, 0, 0, 16, 1, 1);
    }

    private static void greatestAreTaken() {
        odds(12, 0, 15, 16, 1, 281474976710656L);
        odds(12, 11, 1, 16, 281474976710655L, 281474976710656L);
        odds(12, 11, 15, 16, 281474976710656L - 129746337890625L, 281474976710656L);
    }

    private static void withoutCommonDivisor() {
        odds(1, 0, 8, 16, 1, 2);
        odds(1, 0, 6, 15, 3, 5);
        odds(2, 0, 3, 12, 9, 16);
        odds(2, 1, 4, 12, 8, 9);
    }

    private static void allOdds() {
        Model model = new Model(1);
        for (int below = 1; below <= 16; below++) {
            for (int above = 0; above <= below; above++) {
                for (int n = 0; n <= 12; n++) {
                    for (int m = 0; m <= n + 1; m++) {
                        odds(n, m, above, below, model.odds(n, m, above, below, 0), model.odds(n, m, above, below, 1));
                    }
                }
            }
        }
    }

    private static void refuse(Class<? extends RuntimeException> want, int n, int m, int above, int below, int part) {
        Twins.refuse("odds(" + n + ", " + m + ", " + above + ", " + below + ", " + part + ")", want, Sample::tellMuch,
                x -> x.odds(n, m, above, below, part));
    }

    private static void refuseBothParts(int n, int m, int above, int below) {
        refuse(Due.ARGUMENT, n, m, above, below, 0);
        refuse(Due.ARGUMENT, n, m, above, below, 1);
    }

    private static void noSuchPart() {
        for (int part : Beyond.ints(0, 1)) {
            refuse(Due.INDEX, 1, 1, 1, 2, part);
            refuse(Due.INDEX, 0, 0, 0, 1, part);
        }
    }

    private static void nBeyondIsRefused() {
        for (int n : Beyond.ints(0, 12)) {
            refuseBothParts(n, 1, 1, 2);
            refuseBothParts(n, 0, 0, 1);
        }
    }

    private static void mBeyondIsRefused() {
        for (int m : new int[] {-1, -2, Integer.MIN_VALUE}) {
            refuseBothParts(1, m, 1, 2);
            refuseBothParts(0, m, 0, 1);
        }
    }

    private static void belowBeyondIsRefused() {
        for (int below : Beyond.ints(1, 16)) {
            refuseBothParts(1, 1, 0, below);
            refuseBothParts(1, 1, 1, below);
            refuseBothParts(1, 1, below, below);
        }
    }

    private static void aboveBeyondIsRefused() {
        for (int below : new int[] {1, 2, 16}) {
            for (int above : Beyond.ints(0, below)) {
                refuseBothParts(1, 1, above, below);
            }
        }
    }

    private static void orderOfExceptions() {
        for (int part : Beyond.ints(0, 1)) {
            refuse(Due.INDEX, 13, 1, 1, 2, part);
            refuse(Due.INDEX, 1, -1, 1, 2, part);
            refuse(Due.INDEX, 1, 1, 1, 17, part);
            refuse(Due.INDEX, 1, 1, 0, 0, part);
            refuse(Due.INDEX, 1, 1, 3, 2, part);
            refuse(Due.INDEX, -1, -1, -1, -1, part);
        }
    }

    private static void asksOnly() {
        Twins.stay("odds", Sample::tellMuch, x -> x.odds(12, 3, 5, 16, 0));
    }
}
