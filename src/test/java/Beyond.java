/** What lies beyond the limits of an argument: the next ones, and the farthest. */
final class Beyond {
    private Beyond() {
    }

    static int[] ints(int least, int most) {
        return new int[] {least - 1, most + 1, Integer.MIN_VALUE, Integer.MAX_VALUE};
    }

    static double[] doubles(double least, double most) {
        return new double[] {Math.nextDown(least), Math.nextUp(most), least - 1, most + 1, -Double.MAX_VALUE,
            Double.MAX_VALUE, Double.NEGATIVE_INFINITY, Double.POSITIVE_INFINITY, Double.NaN};
    }
}
