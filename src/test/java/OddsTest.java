/** Promise 13: every share and every number of trials against a count by dynamic programming in big integers. */
public final class OddsTest {
    public static void main(String[] args) {
        knownOdds();
        allOdds();
        oddsRefuse();
        Due.end();
    }

    private static void odds(int n, int m, int above, int below, long numerator, long denominator) {
        StrengthRows x = new StrengthRows(1);
        String call = "odds(" + n + ", " + m + ", " + above + ", " + below + ", ";
        Due.isLong(call + "0)", x.odds(n, m, above, below, 0), numerator);
        Due.isLong(call + "1)", x.odds(n, m, above, below, 1), denominator);
    }

    private static void knownOdds() {
        odds(2, 0, 1, 2, 1, 4);
        odds(2, 1, 1, 2, 3, 4);
        odds(2, 2, 1, 2, 1, 1);
        odds(2, Integer.MAX_VALUE, 1, 2, 1, 1);
        odds(3, 1, 2, 6, 20, 27);
        odds(0, 0, 5, 7, 1, 1);
        odds(5, 4, 3, 3, 0, 1);
        odds(5, 5, 3, 3, 1, 1);
        odds(5, 0, 0, 3, 1, 1);
        odds(12, 0, 15, 16, 1, 281474976710656L);
        odds(12, 11, 1, 16, 281474976710655L, 281474976710656L);
    }

    private static void allOdds() {
        Model model = new Model(1);
        for (int below = 1; below <= 16; below++) {
            for (int above = 0; above <= below; above++) {
                for (int n = 0; n <= 12; n++) {
                    for (int m = 0; m <= n + 1; m++) {
                        odds(n, m, above, below, model.odds(n, m, above, below, 0), model.odds(n, m, above, below, 1));
                    }
                }
            }
        }
    }

    private static void oddsRefuse() {
        StrengthRows x = new StrengthRows(1);
        for (int part : new int[] {-1, 2, Integer.MIN_VALUE, Integer.MAX_VALUE}) {
            Due.fails("part " + part, Due.INDEX, () -> x.odds(1, 1, 1, 2, part));
            Due.fails("part " + part + " and n -1", Due.INDEX, () -> x.odds(-1, -1, -1, 0, part));
        }
        for (int part = 0; part < 2; part++) {
            int p = part;
            Due.fails("n 13", Due.ARGUMENT, () -> x.odds(13, 1, 1, 2, p));
            Due.fails("n -1", Due.ARGUMENT, () -> x.odds(-1, 1, 1, 2, p));
            Due.fails("m -1", Due.ARGUMENT, () -> x.odds(1, -1, 1, 2, p));
            Due.fails("below 0", Due.ARGUMENT, () -> x.odds(1, 1, 0, 0, p));
            Due.fails("below 17", Due.ARGUMENT, () -> x.odds(1, 1, 1, 17, p));
            Due.fails("below -1", Due.ARGUMENT, () -> x.odds(1, 1, -1, -1, p));
            Due.fails("above -1", Due.ARGUMENT, () -> x.odds(1, 1, -1, 2, p));
            Due.fails("above 3 of 2", Due.ARGUMENT, () -> x.odds(1, 1, 3, 2, p));
        }
    }
}
