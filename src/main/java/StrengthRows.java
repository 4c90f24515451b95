/** Foretells the strength of boards. DOC.md says what each call answers, README.md how to use the class. */
public final class StrengthRows {
    public static final int NONE = -1;

    private static final int BOARDS = 32;
    private static final int ROWS = 8;
    private static final int MOST_STIFF = 1000;
    private static final int MOST_HERTZ = 100;
    private static final int MOST_DENSITY = 10;
    private static final int MOST_STRENGTH = 1000;

    private static final int TERMS = 3;
    /** A pivot of a size below 1 / PIVOT_PARTS counts as none. */
    private static final int PIVOT_PARTS = 1048576;

    private static final int CLASSES = 4;
    private static final int FIRST_LIMIT = 16;
    private static final int STEPS = 200;
    private static final int MOST_SETTING_BELOW = 1000;

    private static final int MOST_TRIALS = 12;
    private static final int MOST_ODDS_BELOW = 16;
    /** Far above the rounds that Euclid's way needs for two longs (below 100). */
    private static final int MOST_ROUNDS = 1000;

    private static final int MOST_CHART = 20;
    private static final int FIRST_SPAN = 10;
    private static final int FIRST_ALLOWED = 1;

    private static final int REFERENCES = 16;
    private static final int LAST_DAY = 10000;
    private static final int MOST_REFERENCE = 1000;

    private static final long DRAW_STEP = 0x9E3779B97F4A7C15L;
    private static final long DRAW_FIRST = 0xBF58476D1CE4E5B9L;
    private static final long DRAW_SECOND = 0x94D049BB133111EBL;

    private final int seed;
    private final Board[] boards;
    private int boardCount;
    private final Fit latestFit;
    private final Fit fitWithout;
    private final double[] limits;
    private final Chart chartNow;
    private final References references;

    public StrengthRows(int seed) {
        this.seed = seed;
        // All boards are made here: a board not yet told is neither COMPLETE nor BROKEN,
        // so that the loops over boards need no index and meet no null.
        boards = new Board[BOARDS];
        for (int i = 0; i < BOARDS; i++) {
            boards[i] = new Board();
        }
        latestFit = new Fit();
        fitWithout = new Fit();
        limits = new double[CLASSES];
        for (int i = 0; i < CLASSES; i++) {
            limits[i] = FIRST_LIMIT;
        }
        chartNow = new Chart();
        references = new References();
    }

    public int board() throws IllegalStateException {
        if (boardCount >= BOARDS) {
            throw new IllegalStateException("no room for a board");
        }
        boardCount++;
        return boardCount - 1;
    }

    public int row(int board, double stiff)
            throws IndexOutOfBoundsException, IllegalArgumentException, IllegalStateException {
        Board told = boardAt(board);
        need(isWithin(stiff, 0, MOST_STIFF));
        if (told.rowCount >= ROWS) {
            throw new IllegalStateException("no room for a row");
        }
        told.stiffSum = told.stiffSum + stiff;
        told.rowCount++;
        return told.rowCount;
    }

    public void echo(int board, double hertz, double density)
            throws IndexOutOfBoundsException, IllegalArgumentException {
        Board told = boardAt(board);
        need(isWithin(hertz, 0, MOST_HERTZ) && isWithin(density, 0, MOST_DENSITY));
        told.echoValue = density * hertz * hertz;
    }

    public void knots(int board, double share) throws IndexOutOfBoundsException, IllegalArgumentException {
        Board told = boardAt(board);
        need(isWithin(share, 0, 1));
        told.knotShare = share;
    }

    public void broken(int board, double strength)
            throws IndexOutOfBoundsException, IllegalArgumentException, IllegalStateException {
        Board told = boardAt(board);
        need(isWithin(strength, 0, MOST_STRENGTH));
        if (told.wasBroken || told.isOut) {
            throw new IllegalStateException("broken before, or out");
        }
        told.strength = strength;
        told.wasBroken = true;
    }

    public int fit() {
        return latestFit.reckon(boards, null);
    }

    public double number(int k) throws IndexOutOfBoundsException {
        if (k < 0 || k >= TERMS) {
            throw new IndexOutOfBoundsException("no such number");
        }
        return latestFit.numbers[k];
    }

    public double foretold(int board) throws IndexOutOfBoundsException, IllegalStateException {
        return latestFit.foretell(completeBoardAt(board));
    }

    public double leftOut(int board) throws IndexOutOfBoundsException, IllegalStateException {
        Board without = completeBoardAt(board);
        fitWithout.reckon(boards, without);
        return fitWithout.foretell(without);
    }

    public void limit(int cls, double limit) throws IndexOutOfBoundsException, IllegalArgumentException {
        checkClass(cls);
        need(isWithin(limit, 0, MOST_STRENGTH));
        limits[cls] = limit;
    }

    public int setting(int cls, int above, int below) throws IndexOutOfBoundsException, IllegalArgumentException {
        checkClass(cls);
        need(isShare(above, below, MOST_SETTING_BELOW));
        keepForetold();
        for (int step = 0; step <= STEPS; step++) {
            if (isEnough(step / 4.0, limits[cls], above, below)) {
                return step;
            }
        }
        return NONE;
    }

    public long odds(int n, int m, int above, int below, int part)
            throws IndexOutOfBoundsException, IllegalArgumentException {
        if (part < 0 || part > 1) {
            throw new IndexOutOfBoundsException("no such part");
        }
        need(n >= 0 && n <= MOST_TRIALS && m >= 0 && isShare(above, below, MOST_ODDS_BELOW));
        long few = waysOfFew(n, m, above, below - above);
        long all = power(below, n);
        long divisor = commonDivisor(all, few);
        long asked = part == 0 ? few : all;
        return divisor > 1 ? asked / divisor : asked;
    }

    public void chart(int n, int m) throws IllegalArgumentException {
        need(n >= 1 && n <= MOST_CHART && m >= 0 && m <= n);
        chartNow.begin(n, m);
    }

    public boolean test(boolean bad) {
        return chartNow.actsAt(bad);
    }

    public int proof(double load) throws IllegalArgumentException {
        need(isWithin(load, 0, MOST_STRENGTH));
        int gone = 0;
        for (Board told : boards) {
            if (told.wasBroken && !told.isOut && told.strength < load) {
                told.isOut = true;
                gone++;
            }
        }
        return gone;
    }

    public int about(int board, int what) throws IndexOutOfBoundsException {
        Board told = boardAt(board);
        switch (what) {
            case 0:
                return told.rowCount;
            case 1:
                return told.isComplete() ? 1 : 0;
            case 2:
                return told.wasBroken ? 1 : 0;
            case 3:
                return told.isOut ? 1 : 0;
            default:
                throw new IndexOutOfBoundsException("no such what");
        }
    }

    public int reference(int day, double v) throws IllegalArgumentException, IllegalStateException {
        need(isDay(day) && references.isBehindLast(day) && isWithin(v, -MOST_REFERENCE, MOST_REFERENCE));
        if (references.isFull()) {
            throw new IllegalStateException("no room for a reference");
        }
        return references.append(day, v);
    }

    public double drift(int day) throws IllegalArgumentException {
        need(isDay(day));
        return references.valueAt(day);
    }

    public double drawn(int k) throws IllegalArgumentException {
        need(k >= 0);
        // 1L: the last k + 1 does not fit into an int.
        long z = seed + (k + 1L) * DRAW_STEP;
        z = (z ^ (z >>> 30)) * DRAW_FIRST;
        z = (z ^ (z >>> 27)) * DRAW_SECOND;
        z = z ^ (z >>> 31);
        return (z >>> 44) / 32768.0;
    }

    private Board boardAt(int number) {
        if (number < 0 || number >= boardCount) {
            throw new IndexOutOfBoundsException("no such board");
        }
        return boards[number];
    }

    private Board completeBoardAt(int number) {
        Board told = boardAt(number);
        if (!told.isComplete()) {
            throw new IllegalStateException("the board is not complete");
        }
        return told;
    }

    private static void checkClass(int cls) {
        if (cls < 0 || cls >= CLASSES) {
            throw new IndexOutOfBoundsException("no such class");
        }
    }

    private static void need(boolean asSaid) {
        if (!asSaid) {
            throw new IllegalArgumentException("a number is not as said");
        }
    }

    /** False for what is no number too, as no comparison with it holds. */
    private static boolean isWithin(double x, int least, int most) {
        return x >= least && x <= most;
    }

    private static boolean isDay(int day) {
        return day >= 0 && day <= LAST_DAY;
    }

    private static boolean isShare(int above, int below, int mostBelow) {
        return below >= 1 && below <= mostBelow && above >= 0 && above <= below;
    }

    /** Kept with the boards, as all steps of a setting ask for the same ones. */
    private void keepForetold() {
        for (Board told : boards) {
            told.keptForetold = latestFit.foretell(told);
        }
    }

    private boolean isEnough(double least, double limit, int above, int below) {
        int count = 0;
        int weak = 0;
        for (Board told : boards) {
            if (told.isFitted() && told.keptForetold >= least) {
                count++;
                if (told.strength < limit) {
                    weak++;
                }
            }
        }
        return weak * below <= above * count;
    }

    /** Of (failing + holding)^n equal ways of n trials, those in which at most m fail. */
    private static long waysOfFew(int n, int m, int failing, int holding) {
        long sum = 0;
        long choices = 1;
        for (int k = 0; k <= n && k <= m; k++) {
            sum += choices * power(failing, k) * power(holding, n - k);
            choices = choices * (n - k) / (k + 1);
        }
        return sum;
    }

    private static long power(int base, int exponent) {
        long product = 1;
        for (int i = 0; i < exponent; i++) {
            product *= base;
        }
        return product;
    }

    private static long commonDivisor(long a, long b) {
        long greater = a;
        long less = b;
        for (int round = 0; round < MOST_ROUNDS && less != 0; round++) {
            long rest = greater % less;
            greater = less;
            less = rest;
        }
        return greater;
    }

    private static final class Board {
        private int rowCount;
        private double stiffSum;
        private double echoValue;
        private double knotShare;
        private double strength;
        private boolean wasBroken;
        private boolean isOut;
        private double keptForetold;

        private boolean isComplete() {
            return rowCount >= 1 && echoValue > 0;
        }

        private boolean isFitted() {
            return isComplete() && wasBroken;
        }

        private double mean() {
            return rowCount > 0 ? stiffSum / rowCount : 0.0;
        }

        private double term(int i) {
            if (i == 0) {
                return 1.0;
            }
            return i == 1 ? (mean() + echoValue) / 2 : 1 - knotShare;
        }
    }

    /** Least squares: its rows are made once and used again by each fit. */
    private static final class Fit {
        private final double[][] products = new double[TERMS][TERMS];
        private final double[] targets = new double[TERMS];
        private final double[] numbers = new double[TERMS];

        /** A fit over the boards but for one, which may be null; its rank. */
        private int reckon(Board[] boards, Board without) {
            clear();
            for (Board told : boards) {
                if (told.isFitted() && told != without) {
                    add(told);
                }
            }
            int rank = eliminate();
            substitute();
            return rank;
        }

        private double foretell(Board told) {
            return numbers[0] * told.term(0) + numbers[1] * told.term(1) + numbers[2] * told.term(2);
        }

        private void clear() {
            for (int i = 0; i < TERMS; i++) {
                targets[i] = 0.0;
                for (int j = 0; j < TERMS; j++) {
                    products[i][j] = 0.0;
                }
            }
        }

        private void add(Board told) {
            for (int i = 0; i < TERMS; i++) {
                targets[i] = targets[i] + told.term(i) * told.strength;
                for (int j = 0; j < TERMS; j++) {
                    products[i][j] = products[i][j] + told.term(i) * told.term(j);
                }
            }
        }

        private int eliminate() {
            int rank = 0;
            for (int c = 0; c < TERMS; c++) {
                if (!isPassedOver(c)) {
                    rank++;
                    for (int r = c + 1; r < TERMS; r++) {
                        lessen(r, c, products[r][c] / products[c][c]);
                    }
                }
            }
            return rank;
        }

        private void lessen(int r, int c, double f) {
            for (int j = c; j < TERMS; j++) {
                products[r][j] = products[r][j] - f * products[c][j];
            }
            targets[r] = targets[r] - f * targets[c];
        }

        private void substitute() {
            for (int c = TERMS - 1; c >= 0; c--) {
                if (isPassedOver(c)) {
                    numbers[c] = 0.0;
                } else {
                    double rest = targets[c];
                    for (int j = c + 1; j < TERMS; j++) {
                        rest = rest - products[c][j] * numbers[j];
                    }
                    numbers[c] = rest / products[c][c];
                }
            }
        }

        /** Asked again behind the elimination it answers the same, as no later column changes row c. */
        private boolean isPassedOver(int c) {
            double pivot = products[c][c];
            double size = pivot < 0 ? -pivot : pivot;
            return size < 1.0 / PIVOT_PARTS;
        }
    }

    private static final class Chart {
        private int span = FIRST_SPAN;
        private int allowed = FIRST_ALLOWED;
        /** The latest tests, the last one lowest, a bad one set: as many bits as the span. */
        private int badBits;
        private int holdsFor;

        private void begin(int n, int m) {
            span = n;
            allowed = m;
            badBits = 0;
            holdsFor = 0;
        }

        private boolean actsAt(boolean bad) {
            badBits = (badBits << 1 | (bad ? 1 : 0)) & ((1 << span) - 1);
            if (holdsFor > 0) {
                holdsFor--;
                return false;
            }
            if (Integer.bitCount(badBits) <= allowed) {
                return false;
            }
            holdsFor = span;
            return true;
        }
    }

    private static final class References {
        private final int[] days = new int[REFERENCES];
        private final double[] values = new double[REFERENCES];
        private int count;
        private int lastDay = NONE;

        private boolean isBehindLast(int day) {
            return day > lastDay;
        }

        private boolean isFull() {
            return count >= REFERENCES;
        }

        /** Asked only when it is not full. */
        private int append(int day, double value) {
            days[count] = day;
            values[count] = value;
            lastDay = day;
            count++;
            return count;
        }

        private double valueAt(int day) {
            double latest = 0.0;
            for (int i = 0; i < count; i++) {
                if (day == days[i] || i == 0 && day < days[i]) {
                    return values[i];
                }
                if (i > 0 && days[i - 1] < day && day < days[i]) {
                    return between(i - 1, i, day);
                }
                latest = values[i];
            }
            return latest;
        }

        /** For a day truly between the two, so that the whole that divides is above 0. */
        private double between(int i0, int i1, int day) {
            double gone = day - days[i0];
            double whole = days[i1] - days[i0];
            return values[i0] + gone * (values[i1] - values[i0]) / whole;
        }
    }
}
