/** Promises 14 and 15: charts act, hold, and are made anew. */
public final class ChartTest {
    public static void main(String[] args) {
        fewerAtTheBegin();
        moreThanManyAct();
        latestTestsCount();
        holdsForAsManyTests();
        testsInTheHoldCount();
        goodTestsMayAct();
        allBadNeverActs();
        shortestChart();
        longestChart();
        chartBeginsAnew();
        leastAndGreatestAreTaken();
        nBeyondIsRefused();
        mBeyondIsRefused();
        Due.end();
    }

    /** b or g: a bad or good test, not acting; B or G: one that acts. A number in front repeats. */
    private static void run(StrengthRows x, String tests) {
        int times = 0;
        for (int i = 0; i < tests.length(); i++) {
            char c = tests.charAt(i);
            if (c >= '0' && c <= '9') {
                times = times * 10 + c - '0';
                continue;
            }
            boolean bad = c == 'b' || c == 'B';
            boolean acts = c == 'B' || c == 'G';
            for (int k = 0; k < Math.max(times, 1); k++) {
                Due.isTrue("test " + k + " at " + i + " of " + tests, x.test(bad) == acts);
            }
            times = 0;
        }
    }

    private static StrengthRows chart(int n, int m) {
        StrengthRows x = new StrengthRows(1);
        x.chart(n, m);
        return x;
    }

    private static void fewerAtTheBegin() {
        run(chart(5, 0), "ggB");
        run(chart(5, 1), "bB");
        run(chart(5, 2), "bgbB");
        run(chart(3, 1), "bggbggbgB");
    }

    private static void moreThanManyAct() {
        run(chart(6, 0), "5gB");
        run(chart(6, 3), "3b10g3b");
        run(chart(6, 3), "3bB");
        run(chart(6, 5), "5bg5b");
        run(chart(6, 5), "5bB");
    }

    private static void latestTestsCount() {
        run(chart(6, 1), "b4gB");
        run(chart(6, 1), "b5gb");
        run(chart(2, 1), "bgbgbB");
        run(chart(3, 2), "bbgbbgbbB");
    }

    private static void holdsForAsManyTests() {
        run(chart(3, 0), "BbbbBbbbB");
        run(chart(2, 1), "bBbbBggbB");
        run(chart(7, 0), "B7bB7bB");
        run(chart(7, 0), "B6bgG6gbB");
    }

    private static void testsInTheHoldCount() {
        run(chart(3, 1), "bBgbbG");
        run(chart(3, 1), "bBgbbB");
        run(chart(3, 1), "bBgggb");
        run(chart(4, 2), "bbBgbbbB");
    }

    private static void goodTestsMayAct() {
        run(chart(4, 0), "BgggbG");
        run(chart(4, 0), "BggggggB");
        run(chart(4, 0), "Bggggg");
    }

    private static void allBadNeverActs() {
        run(chart(1, 1), "10b");
        run(chart(4, 4), "20b");
        run(chart(20, 20), "60b");
    }

    private static void shortestChart() {
        run(chart(1, 0), "BbBbBgB");
        run(chart(1, 0), "gBggBbgB");
        run(chart(1, 1), "bgbbg");
    }

    private static void longestChart() {
        run(chart(20, 1), "b18gB");
        run(chart(20, 1), "b19gb");
        run(chart(20, 19), "19bB");
        run(chart(20, 19), "19bg19bB");
        run(chart(20, 0), "B20bB20b");
        run(chart(20, 0), "B20ggB");
    }

    private static void chartBeginsAnew() {
        StrengthRows x = chart(3, 0);
        run(x, "Bb");
        x.chart(3, 0);
        run(x, "gB");
        x.chart(3, 1);
        run(x, "bgB");
        x.chart(2, 1);
        run(x, "bgbB");
        for (Twins.Told before : states()) {
            Twins.alike("another chart is as a new one", told -> {
                before.to(told);
                told.chart(10, 1);
            }, told -> { });
        }
    }

    /** New; bad tests in sight; just holding; in its last held test; hold just ended. */
    private static Twins.Told[] states() {
        return new Twins.Told[] {
            x -> { },
            x -> run(x, "b"),
            x -> run(x, "bB"),
            x -> run(x, "bB9g"),
            x -> run(x, "bB5g4bg"),
        };
    }

    private static void take(int n, int m) {
        Due.passes("chart(" + n + ", " + m + ")", () -> chart(n, m));
    }

    private static void leastAndGreatestAreTaken() {
        for (int n : new int[] {1, 2, 19, 20}) {
            take(n, 0);
            take(n, n);
            StrengthRows last = chart(n, n - 1);
            run(last, n > 1 ? n - 1 + "bB" : "B");
            StrengthRows never = chart(n, n);
            run(never, n + 1 + "b");
        }
    }

    private static void refuse(int n, int m) {
        for (Twins.Told before : states()) {
            Twins.refuse("chart(" + n + ", " + m + ")", Due.ARGUMENT, before, x -> x.chart(n, m));
        }
        Twins.refuse("chart(" + n + ", " + m + ")", Due.ARGUMENT, Sample::tellMuch, x -> x.chart(n, m));
    }

    private static void nBeyondIsRefused() {
        for (int n : Beyond.ints(1, 20)) {
            refuse(n, 0);
            refuse(n, 1);
            refuse(n, n);
        }
    }

    private static void mBeyondIsRefused() {
        for (int n : new int[] {1, 3, 20}) {
            for (int m : Beyond.ints(0, n)) {
                refuse(n, m);
            }
        }
        refuse(-1, -1);
    }
}
