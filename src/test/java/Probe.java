import java.util.ArrayList;
import java.util.List;

/**
 * Ways of asking an object all that it can be asked, so that two objects that are not in the same state show it.
 * Most of them change the object: each asks one of its own. None makes more than some 260 calls,
 * so that with those that told the object all stay below 512.
 */
enum Probe {
    READ {
        @Override
        void ask(StrengthRows x, List<String> to) {
            readNumbers(x, to);
            readBoards(x, to);
            readSettings(x, to);
            readDrifts(x, to);
            to.add(Due.told(() -> x.drawn(0)));
        }
    },
    FIT {
        @Override
        void ask(StrengthRows x, List<String> to) {
            fitAnew(x, to, boards(x));
            readSettings(x, to);
        }
    },
    ROWS {
        @Override
        void ask(StrengthRows x, List<String> to) {
            int count = boards(x);
            ofEachBoard(count, to, board -> x.row(board, 2.5));
            fitAnew(x, to, count);
        }
    },
    /** Behind it all boards are COMPLETE, and so show their KNOTS. */
    ROWS_AND_ECHOES {
        @Override
        void ask(StrengthRows x, List<String> to) {
            int count = boards(x);
            ofEachBoard(count, to, board -> {
                x.echo(board, 1.5, 1 + board % 3);
                return x.row(board, 2.5);
            });
            fitAnew(x, to, count);
        }
    },
    STRENGTHS {
        @Override
        void ask(StrengthRows x, List<String> to) {
            ofEachBoard(boards(x), to, board -> {
                x.broken(board, 900 + board);
                return 0;
            });
            for (double load : new double[] {0, Double.MIN_VALUE, 1, 5, 6, 7.5, 9.5, 11.5, 12.5, 20, 45, 899, 902, 904,
                907, 1000}) {
                to.add(Due.told(() -> x.proof(load)));
            }
        }
    },
    BAD_TESTS {
        @Override
        void ask(StrengthRows x, List<String> to) {
            test(x, to, -1L);
        }
    },
    MIXED_TESTS {
        @Override
        void ask(StrengthRows x, List<String> to) {
            test(x, to, 0x9C6D_35E2_4B71_D8A4L);
        }
    },
    RARE_BAD_TESTS {
        @Override
        void ask(StrengthRows x, List<String> to) {
            test(x, to, 0x0842_1084_2108_4210L);
        }
    },
    ROOM {
        @Override
        void ask(StrengthRows x, List<String> to) {
            for (int i = 0; i < 33; i++) {
                to.add(Due.told(() -> x.board()));
            }
            for (int i = 0; i < 40; i++) {
                int day = i < 38 ? i : i + 9961;
                to.add(Due.told(() -> x.reference(day, day % 7)));
            }
            readDrifts(x, to);
        }
    };

    private interface OfBoard {
        double answer(int board);
    }

    abstract void ask(StrengthRows x, List<String> to);

    List<String> answers(StrengthRows x) {
        List<String> answers = new ArrayList<>();
        ask(x, answers);
        return answers;
    }

    private static int boards(StrengthRows x) {
        for (int board = 0; board < 32; board++) {
            try {
                x.about(board, 0);
            } catch (IndexOutOfBoundsException e) {
                return board;
            }
        }
        return 32;
    }

    private static void ofEachBoard(int count, List<String> to, OfBoard call) {
        for (int i = 0; i < count; i++) {
            int board = i;
            to.add(Due.told(() -> call.answer(board)));
        }
    }

    private static void readNumbers(StrengthRows x, List<String> to) {
        for (int i = 0; i < 3; i++) {
            int k = i;
            to.add(Due.told(() -> x.number(k)));
        }
    }

    private static void readBoards(StrengthRows x, List<String> to) {
        int count = boards(x);
        for (int i = 0; i < 4; i++) {
            int what = i;
            ofEachBoard(count, to, board -> x.about(board, what));
        }
        ofEachBoard(count, to, board -> x.foretold(board));
        ofEachBoard(count, to, board -> x.leftOut(board));
    }

    private static void fitAnew(StrengthRows x, List<String> to, int count) {
        to.add(Due.told(() -> x.fit()));
        readNumbers(x, to);
        ofEachBoard(count, to, board -> x.foretold(board));
    }

    private static void readSettings(StrengthRows x, List<String> to) {
        for (int i = 0; i < 4; i++) {
            int cls = i;
            to.add(Due.told(() -> x.setting(cls, 0, 1)));
            to.add(Due.told(() -> x.setting(cls, 1, 3)));
            to.add(Due.told(() -> x.setting(cls, 1, 2)));
        }
    }

    private static void readDrifts(StrengthRows x, List<String> to) {
        for (int day : new int[] {0, 1, 2, 4, 5, 6, 7, 8, 9, 10, 11, 15, 16, 20, 100, 5000, 9999, 10000}) {
            to.add(Due.told(() -> x.drift(day)));
        }
    }

    /** 64 tests, the lowest bit first, a bad one set. */
    private static void test(StrengthRows x, List<String> to, long badBits) {
        for (int i = 0; i < 64; i++) {
            boolean bad = (badBits >>> i & 1) != 0;
            to.add(Due.told(() -> x.test(bad) ? 1 : 0));
        }
    }
}
