/** Promises 14 and 15: charts act, hold, and are made anew. A text's b is a bad test, its capital B one that acts. */
public final class ChartTest {
    public static void main(String[] args) {
        fewerAtTheBegin();
        holdsForAsManyTests();
        testsInTheHoldCount();
        goodTestsMayAct();
        allBadNeverActs();
        chartBeginsAnew();
        refusedChartChangesNothing();
        longestChart();
        Due.end();
    }

    /** b or g: bad or good, not acting; B or G: acting. */
    private static void run(StrengthRows x, String tests) {
        for (int i = 0; i < tests.length(); i++) {
            char c = tests.charAt(i);
            boolean bad = c == 'b' || c == 'B';
            boolean acts = c == 'B' || c == 'G';
            Due.isTrue("test " + i + " of " + tests, x.test(bad) == acts);
        }
    }

    private static StrengthRows chart(int n, int m) {
        StrengthRows x = new StrengthRows(1);
        x.chart(n, m);
        return x;
    }

    private static void fewerAtTheBegin() {
        run(chart(5, 0), "ggB");
        run(chart(5, 1), "bB");
        run(chart(5, 2), "bgbB");
        run(chart(3, 1), "bggbggbgB");
    }

    private static void holdsForAsManyTests() {
        run(chart(3, 0), "BbbbBbbbB");
        run(chart(1, 0), "BbBbBgB");
        run(chart(2, 1), "bBbbBggbB");
    }

    private static void testsInTheHoldCount() {
        run(chart(3, 1), "bBgbbG");
        run(chart(3, 1), "bBgbbB");
        run(chart(3, 1), "bBgggb");
        run(chart(4, 2), "bbBgbbbB");
    }

    private static void goodTestsMayAct() {
        run(chart(4, 0), "BgggbG");
        run(chart(4, 0), "BggggggB");
        run(chart(4, 0), "Bggggg");
    }

    private static void allBadNeverActs() {
        run(chart(1, 1), "bbbbbb");
        run(chart(4, 4), "bbbbbbbbbbbb");
        run(chart(20, 20), "bbbbbbbbbbbbbbbbbbbbbbbbbb");
    }

    private static void chartBeginsAnew() {
        StrengthRows x = chart(3, 0);
        run(x, "Bb");
        x.chart(3, 0);
        run(x, "gB");
        x.chart(3, 1);
        run(x, "bgB");
        x.chart(2, 1);
        run(x, "bgbB");
    }

    private static void refusedChartChangesNothing() {
        StrengthRows x = chart(3, 1);
        run(x, "b");
        int[][] wrong = {{0, 0}, {21, 0}, {-1, -1}, {3, -1}, {3, 4}, {20, 21},
            {Integer.MIN_VALUE, 0}, {Integer.MAX_VALUE, 0}, {3, Integer.MIN_VALUE}, {3, Integer.MAX_VALUE}};
        for (int[] pair : wrong) {
            Due.fails("chart(" + pair[0] + ", " + pair[1] + ")", Due.ARGUMENT, () -> x.chart(pair[0], pair[1]));
        }
        run(x, "Bgg");
        Due.fails("chart(0, 0)", Due.ARGUMENT, () -> x.chart(0, 0));
        run(x, "bB");
    }

    private static void longestChart() {
        run(chart(20, 1), "bggggggggggggggggggB");
        run(chart(20, 1), "bgggggggggggggggggggb");
        run(chart(20, 19), "bbbbbbbbbbbbbbbbbbbB");
    }
}
