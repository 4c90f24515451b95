import java.math.BigInteger;
import java.util.ArrayList;
import java.util.List;

/**
 * The document once more, written for the tests in another way (rows kept, all reckoned anew at each call,
 * big integers, tests kept in a list), so that a slip in one of the two shows.
 */
final class Model {
    private static final class B {
        final List<Double> rows = new ArrayList<>();
        double echo = 0;
        double knots = 0;
        Double strength = null;
        boolean out = false;
    }

    private final long seed;
    private final List<B> boards = new ArrayList<>();
    private double[] c = new double[3];
    private final double[] limits = {16, 16, 16, 16};
    private int chartN = 10;
    private int chartM = 1;
    private List<Boolean> tests = new ArrayList<>();
    private int actedAt = -1;
    private final List<Integer> days = new ArrayList<>();
    private final List<Double> values = new ArrayList<>();

    Model(int seed) {
        this.seed = seed;
    }

    private static void index(boolean wrong) {
        if (wrong) {
            throw new IndexOutOfBoundsException();
        }
    }

    private static void argument(boolean wrong) {
        if (wrong) {
            throw new IllegalArgumentException();
        }
    }

    private static void state(boolean wrong) {
        if (wrong) {
            throw new IllegalStateException();
        }
    }

    private static boolean outside(double x, double least, double most) {
        return Double.isNaN(x) || x < least || x > most;
    }

    private B at(int board) {
        index(board < 0 || board >= boards.size());
        return boards.get(board);
    }

    int board() {
        state(boards.size() == 32);
        boards.add(new B());
        return boards.size() - 1;
    }

    int row(int board, double stiff) {
        B b = at(board);
        argument(outside(stiff, 0, 1000));
        state(b.rows.size() == 8);
        b.rows.add(stiff);
        return b.rows.size();
    }

    void echo(int board, double hertz, double density) {
        B b = at(board);
        argument(outside(hertz, 0, 100) || outside(density, 0, 10));
        double once = density * hertz;
        b.echo = once * hertz;
    }

    void knots(int board, double share) {
        B b = at(board);
        argument(outside(share, 0, 1));
        b.knots = share;
    }

    void broken(int board, double strength) {
        B b = at(board);
        argument(outside(strength, 0, 1000));
        state(b.strength != null || b.out);
        b.strength = strength;
    }

    private static boolean complete(B b) {
        return !b.rows.isEmpty() && b.echo > 0;
    }

    private static double[] x(B b) {
        double sum = 0;
        for (double stiff : b.rows) {
            sum = sum + stiff;
        }
        double mean = sum / b.rows.size();
        return new double[] {1, (mean + b.echo) / 2, 1 - b.knots};
    }

    /** Answers C(0), C(1), C(2) and the rank. */
    private double[] fitted(B without) {
        double[] s = new double[9];
        double[] t = new double[3];
        for (B b : boards) {
            if (b == without || !complete(b) || b.strength == null) {
                continue;
            }
            double[] x = x(b);
            for (int cell = 0; cell < 9; cell++) {
                s[cell] += x[cell / 3] * x[cell % 3];
            }
            for (int i = 0; i < 3; i++) {
                t[i] += x[i] * b.strength;
            }
        }
        double edge = Math.pow(2, -20);
        boolean[] passed = new boolean[3];
        for (int col = 0; col < 3; col++) {
            passed[col] = Math.abs(s[4 * col]) < edge;
            for (int r = col + 1; r < 3 && !passed[col]; r++) {
                double f = s[3 * r + col] / s[4 * col];
                for (int j = col; j < 3; j++) {
                    double product = f * s[3 * col + j];
                    s[3 * r + j] -= product;
                }
                double product = f * t[col];
                t[r] -= product;
            }
        }
        double c2 = passed[2] ? 0 : t[2] / s[8];
        double c1 = passed[1] ? 0 : (t[1] - s[5] * c2) / s[4];
        double c0 = passed[0] ? 0 : (t[0] - s[1] * c1 - s[2] * c2) / s[0];
        int rank = (passed[0] ? 0 : 1) + (passed[1] ? 0 : 1) + (passed[2] ? 0 : 1);
        return new double[] {c0, c1, c2, rank};
    }

    private static double by(double[] c, B b) {
        double[] x = x(b);
        double sum = c[0] * x[0];
        sum += c[1] * x[1];
        sum += c[2] * x[2];
        return sum;
    }

    int fit() {
        c = fitted(null);
        return (int) c[3];
    }

    double number(int k) {
        index(k < 0 || k > 2);
        return c[k];
    }

    double foretold(int board) {
        B b = at(board);
        state(!complete(b));
        return by(c, b);
    }

    double leftOut(int board) {
        B b = at(board);
        state(!complete(b));
        return by(fitted(b), b);
    }

    void limit(int cls, double limit) {
        index(cls < 0 || cls > 3);
        argument(outside(limit, 0, 1000));
        limits[cls] = limit;
    }

    int setting(int cls, int above, int below) {
        index(cls < 0 || cls > 3);
        argument(below < 1 || below > 1000);
        argument(above < 0 || above > below);
        List<double[]> judged = new ArrayList<>();
        for (B b : boards) {
            if (complete(b) && b.strength != null) {
                judged.add(new double[] {by(c, b), b.strength});
            }
        }
        for (int k = 0; k <= 200; k++) {
            long passing = 0;
            long weak = 0;
            for (double[] pair : judged) {
                if (pair[0] * 4 >= k) {
                    passing++;
                    weak += pair[1] < limits[cls] ? 1 : 0;
                }
            }
            BigInteger left = BigInteger.valueOf(weak).multiply(BigInteger.valueOf(below));
            BigInteger right = BigInteger.valueOf(above).multiply(BigInteger.valueOf(passing));
            if (left.compareTo(right) <= 0) {
                return k;
            }
        }
        return -1;
    }

    long odds(int n, int m, int above, int below, int part) {
        index(part != 0 && part != 1);
        argument(n < 0 || n > 12 || m < 0);
        argument(below < 1 || below > 16 || above < 0 || above > below);
        // ways[k]: the ways in which k of the trials so far fail
        BigInteger[] ways = new BigInteger[n + 1];
        for (int k = 0; k <= n; k++) {
            ways[k] = k == 0 ? BigInteger.ONE : BigInteger.ZERO;
        }
        for (int trial = 0; trial < n; trial++) {
            for (int k = n; k >= 0; k--) {
                BigInteger more = k == 0 ? BigInteger.ZERO : ways[k - 1].multiply(BigInteger.valueOf(above));
                ways[k] = ways[k].multiply(BigInteger.valueOf(below - above)).add(more);
            }
        }
        BigInteger few = BigInteger.ZERO;
        for (int k = 0; k <= n; k++) {
            if (k <= m) {
                few = few.add(ways[k]);
            }
        }
        BigInteger all = BigInteger.valueOf(below).pow(n);
        BigInteger divisor = all.gcd(few);
        return (part == 0 ? few : all).divide(divisor).longValueExact();
    }

    void chart(int n, int m) {
        argument(n < 1 || n > 20);
        argument(m < 0 || m > n);
        chartN = n;
        chartM = m;
        tests = new ArrayList<>();
        actedAt = -1;
    }

    boolean test(boolean bad) {
        tests.add(bad);
        int now = tests.size() - 1;
        int count = 0;
        for (int i = Math.max(0, now - chartN + 1); i <= now; i++) {
            count += tests.get(i) ? 1 : 0;
        }
        boolean holds = actedAt >= 0 && now - actedAt <= chartN;
        if (holds || count <= chartM) {
            return false;
        }
        actedAt = now;
        return true;
    }

    int proof(double load) {
        argument(outside(load, 0, 1000));
        int gone = 0;
        for (B b : boards) {
            boolean goes = b.strength != null && b.strength < load;
            if (goes && !b.out) {
                gone++;
            }
            b.out |= goes;
        }
        return gone;
    }

    int about(int board, int what) {
        B b = at(board);
        index(what < 0 || what > 3);
        int[] answers = {b.rows.size(), complete(b) ? 1 : 0, b.strength != null ? 1 : 0, b.out ? 1 : 0};
        return answers[what];
    }

    int reference(int day, double v) {
        argument(day < 0 || day > 10000);
        argument(!days.isEmpty() && days.get(days.size() - 1) >= day);
        argument(outside(v, -1000, 1000));
        state(days.size() == 16);
        days.add(day);
        values.add(v);
        return days.size();
    }

    double drift(int day) {
        argument(day < 0 || day > 10000);
        if (days.isEmpty()) {
            return 0;
        }
        if (days.contains(day)) {
            return values.get(days.indexOf(day));
        }
        int behind = 0;
        while (behind < days.size() && days.get(behind) < day) {
            behind++;
        }
        if (behind == 0 || behind == days.size()) {
            return values.get(behind == 0 ? 0 : behind - 1);
        }
        double d0 = days.get(behind - 1);
        double d1 = days.get(behind);
        double v0 = values.get(behind - 1);
        double v1 = values.get(behind);
        double part = (day - d0) * (v1 - v0);
        return v0 + part / (d1 - d0);
    }

    double drawn(int k) {
        argument(k < 0);
        BigInteger wrap = BigInteger.ONE.shiftLeft(64);
        BigInteger z = new BigInteger("9E3779B97F4A7C15", 16)
                .multiply(BigInteger.valueOf(k).add(BigInteger.ONE)).add(BigInteger.valueOf(seed)).mod(wrap);
        z = z.xor(z.shiftRight(30)).multiply(new BigInteger("BF58476D1CE4E5B9", 16)).mod(wrap);
        z = z.xor(z.shiftRight(27)).multiply(new BigInteger("94D049BB133111EB", 16)).mod(wrap);
        z = z.xor(z.shiftRight(31));
        return z.shiftRight(44).doubleValue() / 32768;
    }
}
