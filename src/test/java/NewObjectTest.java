/** Promise 1: the SEED, the first CHART, and what else the terms say of the beginning. */
public final class NewObjectTest {
    public static void main(String[] args) {
        seedIsKept();
        firstChartIsTenOne();
        firstChartIsAsIfToldSo();
        numbersAreNoneAtFirst();
        limitsAreSixteenAtFirst();
        restIsEmpty();
        objectsAreApart();
        Due.end();
    }

    private static void seedIsKept() {
        for (int seed : new int[] {0, 1, -1, 77, Integer.MAX_VALUE, Integer.MIN_VALUE}) {
            StrengthRows x = new StrengthRows(seed);
            Due.is("drawn(3) of seed " + seed, x.drawn(3), new Model(seed).drawn(3));
        }
    }

    private static void firstChartIsTenOne() {
        StrengthRows near = new StrengthRows(1);
        Due.isTrue("one bad test does not act", !near.test(true));
        for (int i = 0; i < 8; i++) {
            Due.isTrue("good test does not act", !near.test(false));
        }
        Due.isTrue("second bad one of ten acts", near.test(true));

        StrengthRows far = new StrengthRows(1);
        far.test(true);
        for (int i = 0; i < 9; i++) {
            far.test(false);
        }
        Due.isTrue("second bad one of eleven does not act", !far.test(true));
    }

    private static void firstChartIsAsIfToldSo() {
        Twins.alike("the first chart is 10, 1", x -> { }, x -> x.chart(10, 1));
    }

    private static void numbersAreNoneAtFirst() {
        StrengthRows x = new StrengthRows(9);
        for (int k = 0; k < 3; k++) {
            Due.is("number at first", x.number(k), 0);
        }
    }

    private static void limitsAreSixteenAtFirst() {
        for (int cls = 0; cls < 4; cls++) {
            int c = cls;
            Twins.alike("the first limit of class " + c + " is 16", Sample::tellFour, x -> {
                Sample.tellFour(x);
                x.limit(c, 16);
            });
        }
    }

    private static void restIsEmpty() {
        StrengthRows x = new StrengthRows(9);
        Due.is("drift without references", x.drift(0), 0);
        Due.isLong("proof without boards", x.proof(1000), 0);
        Due.isLong("fit without boards", x.fit(), 0);
        Due.isLong("setting without boards", x.setting(3, 0, 1), 0);
        Due.fails("about(0, 0)", Due.INDEX, () -> x.about(0, 0));
        Due.isLong("first reference", x.reference(0, 1), 1);
        Due.isLong("first board", x.board(), 0);
        Due.isLong("NONE", StrengthRows.NONE, -1);
    }

    private static void objectsAreApart() {
        StrengthRows one = new StrengthRows(1);
        Sample.tellMuch(one);
        StrengthRows other = new StrengthRows(1);
        Due.is("number(0) of the other object", other.number(0), 0);
        Due.isLong("board of the other object", other.board(), 0);
        Due.is("drift of the other object", other.drift(5), 0);
        Due.isLong("reference of the other object", other.reference(0, 0), 1);
    }
}
