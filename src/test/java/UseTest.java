import java.io.IOException;
import java.nio.file.Files;
import java.nio.file.Path;
import java.util.ArrayList;
import java.util.List;

/** README.md's example: its calls are made here, and its lines must tell them with the answers that they gave. */
public final class UseTest {
    private static final List<String> GIVEN = new ArrayList<>();

    public static void main(String[] args) throws IOException {
        StrengthRows x = new StrengthRows(7);
        tellBoards(x);
        askOfBoards(x);
        askOfClasses(x);
        askTheRest(x);
        compare(toldInReadme(Path.of("README.md")));
        Due.end();
    }

    private static void tellBoards(StrengthRows x) {
        for (int i = 0; i < 4; i++) {
            int board = x.board();
            Due.isLong("board()", board, i);
            x.row(board, i < 2 ? 1 : 5);
            x.echo(board, 1, 1);
            x.knots(board, i % 2 == 0 ? 0.5 : 0);
            x.broken(board, 5 + 2 * i);
        }
    }

    private static void askOfBoards(StrengthRows x) {
        given("x.about(3, 1);", x.about(3, 1));
        given("x.fit();", x.fit());
        given("x.number(1);", x.number(1));
        given("x.foretold(3);", x.foretold(3));
        given("x.leftOut(3);", x.leftOut(3));
    }

    private static void askOfClasses(StrengthRows x) {
        x.limit(0, 7);
        GIVEN.add("x.limit(0, 7);");
        given("x.setting(0, 1, 4);", x.setting(0, 1, 4));
        given("x.setting(0, 0, 1);", x.setting(0, 0, 1));
        given("x.odds(2, 1, 1, 2, 0);", x.odds(2, 1, 1, 2, 0));
        given("x.odds(2, 1, 1, 2, 1);", x.odds(2, 1, 1, 2, 1));
        x.chart(3, 0);
        GIVEN.add("x.chart(3, 0);");
        given("x.test(false);", x.test(false));
        given("x.test(true);", x.test(true));
        given("x.test(true);", x.test(true));
    }

    private static void askTheRest(StrengthRows x) {
        given("x.proof(8);", x.proof(8));
        given("x.about(1, 3);", x.about(1, 3));
        given("x.reference(10, 2);", x.reference(10, 2));
        given("x.reference(20, 4);", x.reference(20, 4));
        given("x.drift(15);", x.drift(15));
        given("x.drawn(0);", x.drawn(0));
    }

    private static void given(String call, Object answer) {
        GIVEN.add(call + " // " + answer);
    }

    /** The lines of the first block of Java that begin with a call: the call, and the answer in front of the colon. */
    private static List<String> toldInReadme(Path readme) throws IOException {
        List<String> told = new ArrayList<>();
        boolean inside = false;
        for (String line : Files.readAllLines(readme)) {
            if (inside && line.equals("```")) {
                break;
            }
            if (inside && line.startsWith("x.")) {
                told.add(line.replaceAll(" +//", " //").replaceAll(":.*", ""));
            }
            inside = inside || line.equals("```java");
        }
        return told;
    }

    private static void compare(List<String> told) {
        Due.isLong("lines told", told.size(), GIVEN.size());
        for (int i = 0; i < GIVEN.size(); i++) {
            String line = i < told.size() ? told.get(i) : "nothing";
            Due.isTrue("README.md tells " + line + ", given is " + GIVEN.get(i) + ": that they agree",
                    line.equals(GIVEN.get(i)));
        }
    }
}
