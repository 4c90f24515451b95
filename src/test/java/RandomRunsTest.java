/** Long runs of calls, right and wrong ones, on the class and on the model: both must answer or throw the same. */
public final class RandomRunsTest {
    private static final int RUNS = 1500;
    private static final int CALLS = 512;
    private static final double[] EDGES = {0.0, -0.0, 1, 10, 16, 100, 1000, -1000, -1, 0.0 / 0.0, 1 / 0.0, -1 / 0.0,
        Double.MIN_VALUE, -Double.MIN_VALUE, 1e300, 1.0000000000000002, 10.000000000000002, 100.00000000000001,
        1000.0000000000001};
    private static final int[] WILD = {Integer.MIN_VALUE, Integer.MAX_VALUE, -1, 32, 1 << 30, -1000, 10001, 1001};

    private static long state;
    /** How many of a hundred arguments are wild ones. */
    private static int wildness;

    public static void main(String[] args) {
        for (int run = 0; run < RUNS; run++) {
            state = run * 7919L + 1;
            wildness = run % 3 == 0 ? 0 : run % 3 == 1 ? 3 : 15;
            oneRun(run);
        }
        Due.end();
    }

    private static int below(int bound) {
        state = state * 6364136223846793005L + 1442695040888963407L;
        return (int) ((state >>> 33) % bound);
    }

    private static int pick(int bound) {
        return below(100) < wildness ? WILD[below(WILD.length)] : below(bound);
    }

    private static double real(double most) {
        int kind = below(100);
        if (kind < wildness) {
            return EDGES[below(EDGES.length)];
        }
        if (kind < 60) {
            return below(81) * most / 80;
        }
        return below(1000003) * most / 1000003;
    }

    private static void oneRun(int run) {
        int seed = below(1 << 30) - (1 << 29);
        StrengthRows x = new StrengthRows(seed);
        Model model = new Model(seed);
        int first = run % 2 == 0 ? 6 : 40;
        for (int i = 0; i < CALLS; i++) {
            oneCall(run, i, x, model, i < first ? 0 : below(100));
        }
    }

    private static void oneCall(int run, int i, StrengthRows x, Model model, int kind) {
        int board = pick(12);
        double scale = below(2) == 0 ? 40 : 1000;
        if (kind < 2) {
            same(run, i, "board", () -> x.board(), () -> model.board());
        } else if (kind < 20) {
            double stiff = real(scale);
            same(run, i, "row", () -> x.row(board, stiff), () -> model.row(board, stiff));
        } else if (kind < 31) {
            double hertz = real(below(4) == 0 ? 100 : 4);
            double density = real(below(4) == 0 ? 10 : 2);
            same(run, i, "echo", of(() -> x.echo(board, hertz, density)), of(() -> model.echo(board, hertz, density)));
        } else if (kind < 38) {
            double share = real(1);
            same(run, i, "knots", of(() -> x.knots(board, share)), of(() -> model.knots(board, share)));
        } else if (kind < 44) {
            double strength = real(scale);
            same(run, i, "broken", of(() -> x.broken(board, strength)), of(() -> model.broken(board, strength)));
        } else if (kind < 48) {
            same(run, i, "fit", () -> x.fit(), () -> model.fit());
        } else if (kind < 72) {
            foretelling(run, i, x, model, board, kind);
        } else {
            rest(run, i, x, model, board, kind);
        }
    }

    private static void foretelling(int run, int i, StrengthRows x, Model model, int board, int kind) {
        int cls = pick(4);
        if (kind < 52) {
            int k = pick(3);
            same(run, i, "number", () -> x.number(k), () -> model.number(k));
        } else if (kind < 56) {
            same(run, i, "foretold", () -> x.foretold(board), () -> model.foretold(board));
        } else if (kind < 62) {
            same(run, i, "leftOut", () -> x.leftOut(board), () -> model.leftOut(board));
        } else if (kind < 65) {
            double limit = real(below(2) == 0 ? 40 : 1000);
            same(run, i, "limit", of(() -> x.limit(cls, limit)), of(() -> model.limit(cls, limit)));
        } else {
            int below = pick(12);
            int above = pick(below > 0 && below < 2000 ? below + 1 : 5);
            same(run, i, "setting", () -> x.setting(cls, above, below), () -> model.setting(cls, above, below));
        }
    }

    private static void rest(int run, int i, StrengthRows x, Model model, int board, int kind) {
        int n = pick(13);
        int m = pick(14);
        if (kind < 74) {
            int below = pick(17);
            int above = pick(17);
            int part = pick(2);
            same(run, i, "odds", () -> x.odds(n, m, above, below, part), () -> model.odds(n, m, above, below, part));
        } else if (kind < 75) {
            int span = pick(21);
            same(run, i, "chart", of(() -> x.chart(span, m)), of(() -> model.chart(span, m)));
        } else if (kind < 85) {
            boolean bad = below(3) == 0;
            same(run, i, "test", () -> x.test(bad) ? 1 : 0, () -> model.test(bad) ? 1 : 0);
        } else if (kind < 86) {
            double load = real(below(2) == 0 ? 40 : 1000);
            same(run, i, "proof", () -> x.proof(load), () -> model.proof(load));
        } else if (kind < 91) {
            int what = pick(4);
            same(run, i, "about", () -> x.about(board, what), () -> model.about(board, what));
        } else if (kind < 94) {
            int day = pick(below(3) == 0 ? 10001 : 400);
            double v = real(2000) - 1000;
            same(run, i, "reference", () -> x.reference(day, v), () -> model.reference(day, v));
        } else if (kind < 98) {
            int day = pick(below(3) == 0 ? 10001 : 400);
            same(run, i, "drift", () -> x.drift(day), () -> model.drift(day));
        } else {
            int k = pick(1 << 30);
            same(run, i, "drawn", () -> x.drawn(k), () -> model.drawn(k));
        }
    }

    private static Due.Call of(Due.Act act) {
        return () -> {
            act.run();
            return 0;
        };
    }

    private static void same(int run, int i, String name, Due.Call got, Due.Call want) {
        String call = "run " + run + ", call " + i + ", " + name;
        String due = Due.told(want);
        String answer = Due.told(got);
        Due.isTrue(call + ": " + answer + " is as due: " + due, answer.equals(due));
    }
}
