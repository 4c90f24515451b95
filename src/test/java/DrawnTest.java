/** Promise 20: numbers drawn. SplitMix64 of seed 0 begins with the longs below; their highest 20 bits count. */
public final class DrawnTest {
    public static void main(String[] args) {
        knownNumbers();
        manySeeds();
        leastAndGreatestAreTaken();
        numberBehindTheGreatestIntIsWrapped();
        seedKeepsItsSign();
        belowZeroIsRefused();
        asksOnly();
        Due.end();
    }

    private static void knownNumbers() {
        StrengthRows x = new StrengthRows(0);
        long[] begin = {0xE220A8397B1DCDAFL, 0x6E789E6AA1B965F4L, 0x06C45D188009454FL, 0xF88BB8A8724C81ECL};
        for (int k = 0; k < begin.length; k++) {
            Due.is("drawn(" + k + ")", x.drawn(k), (begin[k] >>> 44) / 32768.0);
        }
        Due.is("drawn(0) again", x.drawn(0), (begin[0] >>> 44) / 32768.0);
    }

    private static void manySeeds() {
        for (int seed : new int[] {0, 5, -5, 123456789, Integer.MIN_VALUE, Integer.MAX_VALUE}) {
            StrengthRows x = new StrengthRows(seed);
            Model model = new Model(seed);
            for (int k : new int[] {0, 1, 2, 31, 1000, Integer.MAX_VALUE - 1, Integer.MAX_VALUE}) {
                Due.is("drawn(" + k + ") of seed " + seed, x.drawn(k), model.drawn(k));
                Due.isTrue("0 .. 32", x.drawn(k) >= 0 && x.drawn(k) < 32);
            }
        }
    }

    /** The mixing of z, wrapped: the highest 20 bits of what it becomes, in parts of 32768. */
    private static double mixed(long begin) {
        long z = begin;
        z = (z ^ z >>> 30) * 0xBF58476D1CE4E5B9L;
        z = (z ^ z >>> 27) * 0x94D049BB133111EBL;
        z = z ^ z >>> 31;
        return (z >>> 44) / 32768.0;
    }

    private static void leastAndGreatestAreTaken() {
        long step = 0x9E3779B97F4A7C15L;
        StrengthRows x = new StrengthRows(42);
        Due.is("the least k", x.drawn(0), mixed(42 + step));
        Due.is("the greatest k but one", x.drawn(Integer.MAX_VALUE - 1), mixed(42 + 2147483647L * step));
        Due.is("the greatest k", x.drawn(Integer.MAX_VALUE), mixed(42 + 2147483648L * step));
    }

    private static void numberBehindTheGreatestIntIsWrapped() {
        long step = 0x9E3779B97F4A7C15L;
        double asInt = mixed(42 + (long) Integer.MIN_VALUE * step);
        Due.isTrue("k + 1 is no int", new StrengthRows(42).drawn(Integer.MAX_VALUE) != asInt);
    }

    private static void seedKeepsItsSign() {
        long step = 0x9E3779B97F4A7C15L;
        for (int seed : new int[] {-1, -42, Integer.MIN_VALUE}) {
            StrengthRows x = new StrengthRows(seed);
            Due.is("drawn(0) of seed " + seed, x.drawn(0), mixed(seed + step));
            Due.isTrue("the seed is not unsigned", x.drawn(0) != mixed((seed & 0xFFFFFFFFL) + step));
        }
        StrengthRows greatest = new StrengthRows(Integer.MAX_VALUE);
        Due.is("drawn(0) of the greatest seed", greatest.drawn(0), mixed(2147483647L + step));
    }

    private static void belowZeroIsRefused() {
        for (int k : new int[] {-1, -2, Integer.MIN_VALUE}) {
            Twins.refuse("drawn(" + k + ")", Due.ARGUMENT, Sample::tellMuch, x -> x.drawn(k));
        }
    }

    private static void asksOnly() {
        for (int k : new int[] {0, 1, Integer.MAX_VALUE}) {
            Twins.stay("drawn(" + k + ")", Sample::tellMuch, x -> x.drawn(k));
        }
    }
}
