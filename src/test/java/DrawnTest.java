/** Promise 20: numbers drawn. SplitMix64 of seed 0 begins with the longs below; their highest 20 bits count. */
public final class DrawnTest {
    public static void main(String[] args) {
        knownNumbers();
        manySeeds();
        drawnRefuses();
        Due.end();
    }

    private static void knownNumbers() {
        StrengthRows x = new StrengthRows(0);
        long[] begin = {0xE220A8397B1DCDAFL, 0x6E789E6AA1B965F4L, 0x06C45D188009454FL, 0xF88BB8A8724C81ECL};
        for (int k = 0; k < begin.length; k++) {
            Due.is("drawn(" + k + ")", x.drawn(k), (begin[k] >>> 44) / 32768.0);
        }
        Due.is("drawn(0) again", x.drawn(0), (begin[0] >>> 44) / 32768.0);
    }

    private static void manySeeds() {
        for (int seed : new int[] {0, 5, -5, 123456789, Integer.MIN_VALUE, Integer.MAX_VALUE}) {
            StrengthRows x = new StrengthRows(seed);
            Model model = new Model(seed);
            for (int k : new int[] {0, 1, 2, 31, 1000, Integer.MAX_VALUE - 1, Integer.MAX_VALUE}) {
                Due.is("drawn(" + k + ") of seed " + seed, x.drawn(k), model.drawn(k));
                Due.isTrue("0 .. 32", x.drawn(k) >= 0 && x.drawn(k) < 32);
            }
        }
    }

    private static void drawnRefuses() {
        StrengthRows x = new StrengthRows(0);
        Due.fails("drawn(-1)", Due.ARGUMENT, () -> x.drawn(-1));
        Due.fails("drawn of the least int", Due.ARGUMENT, () -> x.drawn(Integer.MIN_VALUE));
    }
}
