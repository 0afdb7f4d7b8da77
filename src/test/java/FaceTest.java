import java.lang.reflect.Constructor;
import java.lang.reflect.Field;
import java.lang.reflect.Method;
import java.lang.reflect.Modifier;
import java.util.Arrays;
import java.util.Set;
import java.util.TreeSet;

/** The public face is the document's and no more (LANGUAGE.md, rule 1). */
public final class FaceTest {
    private static final String[] FACE = {
        "int line(int, int, int, int)", "int test(int, int, int, int)", "int wants(int, int)",
        "int open(int, boolean)", "int passes(int)", "int outs(int)",
        "int out(int, int) throws IllegalArgumentException", "int steps(int)", "int step(int, int)",
        "int met(int, int)", "int score(int, int, int)", "int rank(int, int)", "int prior(int, int)",
        "int suspects()", "int suspect(int)", "long odds(int)", "int best()", "int slice(int, int)",
        "int ifs(int)", "int turn(int, int)", "int turnFor(int)", "int mends(int, int)",
        "int mendBy(int, int) throws IllegalArgumentException", "int change(int, int, int, int, int)",
        "int passesIn(int, int)", "int broke(int)", "int looks(int)", "int parting()", "int count(int)",
    };

    public static void main(String[] args) {
        Check check = new Check("FaceTest");
        Set<String> want = new TreeSet<>(Arrays.asList(FACE));
        Set<String> got = new TreeSet<>();
        Set<String> publicNames = new TreeSet<>();
        for (Method m : LineFinder.class.getDeclaredMethods()) {
            if (!Modifier.isPrivate(m.getModifiers())) {
                got.add(told(m));
                publicNames.add(m.getName());
                check.due("public: " + m, Modifier.isPublic(m.getModifiers()) ? 1 : 0, 1);
            }
        }
        check.due("the face " + got + " is that of the document", got.equals(want) ? 1 : 0, 1);
        for (Field f : LineFinder.class.getDeclaredFields()) {
            check.due("private: " + f, Modifier.isPrivate(f.getModifiers()) ? 1 : 0, 1);
            boolean isConstant = !Modifier.isStatic(f.getModifiers()) || Modifier.isFinal(f.getModifiers());
            check.due("static fields are final: " + f, isConstant ? 1 : 0, 1);
        }
        Constructor<?>[] made = LineFinder.class.getDeclaredConstructors();
        check.due("constructors", made.length, 1);
        check.due("constructor is public", Modifier.isPublic(made[0].getModifiers()) ? 1 : 0, 1);
        check.due("class is public and final", LineFinder.class.getModifiers(), Modifier.PUBLIC | Modifier.FINAL);
        privateNames(check, publicNames);
        check.end();
    }

    private static void privateNames(Check check, Set<String> publicNames) {
        for (Method m : LineFinder.class.getDeclaredMethods()) {
            if (Modifier.isPrivate(m.getModifiers())) {
                check.due("a name of its own: " + m, publicNames.contains(m.getName()) ? 1 : 0, 0);
            }
        }
        for (Class<?> inner : LineFinder.class.getDeclaredClasses()) {
            check.due("static: " + inner, Modifier.isStatic(inner.getModifiers()) ? 1 : 0, 1);
            for (Method m : inner.getDeclaredMethods()) {
                check.due("a name of its own: " + m, publicNames.contains(m.getName()) ? 1 : 0, 0);
            }
        }
    }

    private static String told(Method m) {
        StringBuilder text = new StringBuilder(m.getReturnType().getSimpleName() + " " + m.getName() + "(");
        Class<?>[] takes = m.getParameterTypes();
        for (int i = 0; i < takes.length; i++) {
            text.append(i == 0 ? "" : ", ").append(takes[i].getSimpleName());
        }
        text.append(")");
        for (Class<?> thrown : m.getExceptionTypes()) {
            text.append(" throws ").append(thrown.getSimpleName());
        }
        return text.toString();
    }
}
