import java.lang.reflect.Constructor;
import java.lang.reflect.Field;
import java.lang.reflect.Method;
import java.lang.reflect.Modifier;
import java.util.ArrayList;
import java.util.Arrays;
import java.util.Collections;
import java.util.List;

/** The public face, word for word, and nothing beside it that is not private. */
public final class FaceTest {
    private static final String I = " throws IndexOutOfBoundsException";
    private static final String A = " throws IllegalArgumentException";
    private static final String S = " throws IllegalStateException";
    private static final String IA = " throws IndexOutOfBoundsException, IllegalArgumentException";
    private static final String IS = " throws IndexOutOfBoundsException, IllegalStateException";
    private static final String AS = " throws IllegalArgumentException, IllegalStateException";
    private static final String IAS =
            " throws IndexOutOfBoundsException, IllegalArgumentException, IllegalStateException";

    private static final String[] FACE = {
        "int board()" + S,
        "int row(int, double)" + IAS,
        "void echo(int, double, double)" + IA,
        "void knots(int, double)" + IA,
        "void broken(int, double)" + IAS,
        "int fit()",
        "double number(int)" + I,
        "double foretold(int)" + IS,
        "double leftOut(int)" + IS,
        "void limit(int, double)" + IA,
        "int setting(int, int, int)" + IA,
        "long odds(int, int, int, int, int)" + IA,
        "void chart(int, int)" + A,
        "boolean test(boolean)",
        "int proof(double)" + A,
        "int about(int, int)" + I,
        "int reference(int, double)" + AS,
        "double drift(int)" + A,
        "double drawn(int)" + A,
    };

    public static void main(String[] args) {
        Class<?> c = StrengthRows.class;
        Due.isTrue("public final class", c.getModifiers() == (Modifier.PUBLIC | Modifier.FINAL));
        methods(c);
        fields(c);
        Constructor<?>[] made = c.getDeclaredConstructors();
        Due.isTrue("one constructor", made.length == 1 && Modifier.isPublic(made[0].getModifiers())
                && Arrays.equals(made[0].getParameterTypes(), new Class<?>[] {int.class})
                && made[0].getExceptionTypes().length == 0);
        for (Class<?> inside : c.getDeclaredClasses()) {
            int m = inside.getModifiers();
            Due.isTrue(inside + " is static, not public", Modifier.isStatic(m) && !Modifier.isPublic(m)
                    && !Modifier.isProtected(m));
        }
        Due.end();
    }

    private static void methods(Class<?> c) {
        List<String> got = new ArrayList<>();
        List<String> publicNames = new ArrayList<>();
        for (Method m : c.getDeclaredMethods()) {
            if (!Modifier.isPrivate(m.getModifiers())) {
                Due.isTrue(m + " is public and nothing else", m.getModifiers() == Modifier.PUBLIC);
                got.add(head(m));
                publicNames.add(m.getName());
            }
        }
        for (Method m : c.getDeclaredMethods()) {
            Due.isTrue(m + " has a name of its own", !Modifier.isPrivate(m.getModifiers())
                    || !publicNames.contains(m.getName()));
        }
        List<String> want = new ArrayList<>(Arrays.asList(FACE));
        Collections.sort(got);
        Collections.sort(want);
        Due.isTrue("the face " + got + " is " + want, got.equals(want));
    }

    private static String head(Method m) {
        String parameters = names(m.getParameterTypes());
        String thrown = names(m.getExceptionTypes());
        return m.getReturnType().getSimpleName() + " " + m.getName() + "(" + parameters + ")"
                + (thrown.isEmpty() ? "" : " throws " + thrown);
    }

    private static String names(Class<?>[] classes) {
        List<String> names = new ArrayList<>();
        for (Class<?> c : classes) {
            names.add(c.getSimpleName());
        }
        return String.join(", ", names);
    }

    private static void fields(Class<?> c) {
        for (Field f : c.getDeclaredFields()) {
            int m = f.getModifiers();
            if (f.getName().equals("NONE")) {
                Due.isTrue("NONE is a public constant of int", f.getType() == int.class
                        && m == (Modifier.PUBLIC | Modifier.STATIC | Modifier.FINAL));
            } else {
                Due.isTrue(f + " is private", Modifier.isPrivate(m));
                Due.isTrue(f + " is final, if static", !Modifier.isStatic(m) || Modifier.isFinal(m));
            }
        }
    }
}
