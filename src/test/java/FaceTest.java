import java.lang.reflect.Constructor;
import java.lang.reflect.Field;
import java.lang.reflect.Method;
import java.lang.reflect.Modifier;
import java.util.Arrays;
import java.util.Set;
import java.util.TreeSet;

/** The public face is the document's and nothing else is seen outside (rule 1 of LANGUAGE.md). */
public final class FaceTest {
    private static final String[] METHODS = {
        "int feed(int,int,int,int,int)", "int swings(int)", "int score(int)", "int performed(int)", "int marks(int)",
        "int fault()", "int count(int)", "int pendulum(int,int)", "int set(int,int,int)", "int swing(int,int)",
        "int pen(int,int)", "int drawn(int,int)", "int inCell(int,int,int)", "int round()", "int off()", "int keep()",
        "void take(int)", "int alike(int,int)", "int kinds(int)", "int point(int,int,int)", "int unpoint()",
        "int fits(int,int,int)", "int chord(int,int,int)", "int cart(int)", "int birthday(int)", "int forget()",
        "int factor(int)", "int laid(int,int,int,int,int)", "int evening(int)", "int drawing(int)", "void image()",
        "boolean restore()"};

    public static void main(String[] args) {
        Set<String> seen = new TreeSet<>();
        Set<String> names = new TreeSet<>();
        for (Method m : PenSwings.class.getDeclaredMethods()) {
            if (!Modifier.isPrivate(m.getModifiers())) {
                Check.is(m + " is public", Modifier.isPublic(m.getModifiers()) ? 1 : 0, 1);
                seen.add(shape(m));
                names.add(m.getName());
            }
        }
        Check.is("methods " + seen, seen.equals(new TreeSet<>(Arrays.asList(METHODS))) ? 1 : 0, 1);
        for (Method m : PenSwings.class.getDeclaredMethods()) {
            if (Modifier.isPrivate(m.getModifiers())) {
                Check.is(m + " bears a public name", names.contains(m.getName()) ? 1 : 0, 0);
            }
        }
        for (Field f : PenSwings.class.getDeclaredFields()) {
            boolean told = f.getName().equals("NONE");
            Check.is(f + " is seen", Modifier.isPrivate(f.getModifiers()) ? 0 : 1, told ? 1 : 0);
        }
        for (Constructor<?> c : PenSwings.class.getDeclaredConstructors()) {
            Check.is(c + " is told", Modifier.isPublic(c.getModifiers()) && c.getParameterCount() == 0 ? 1 : 0, 1);
        }
        for (Class<?> inside : PenSwings.class.getDeclaredClasses()) {
            inside(inside, names);
        }
        Check.is("classes", PenSwings.class.getDeclaredClasses().length < 12 ? 1 : 0, 1);
        Check.is("final", Modifier.isFinal(PenSwings.class.getModifiers()) ? 1 : 0, 1);
        Check.is("NONE", PenSwings.NONE, -1);
        Check.end();
    }

    private static void inside(Class<?> inside, Set<String> names) {
        int kind = inside.getModifiers();
        Check.is(inside + " is static", Modifier.isStatic(kind) ? 1 : 0, 1);
        Check.is(inside + " is seen", Modifier.isPublic(kind) || Modifier.isProtected(kind) ? 1 : 0, 0);
        for (Method m : inside.getDeclaredMethods()) {
            Check.is(m + " bears a public name", names.contains(m.getName()) ? 1 : 0, 0);
            Check.is(m + " has parameters", m.getParameterCount() <= 7 ? 1 : 0, 1);
        }
        for (Field f : inside.getDeclaredFields()) {
            boolean state = Modifier.isStatic(f.getModifiers()) && !Modifier.isFinal(f.getModifiers());
            Check.is(f + " is static state", state ? 1 : 0, 0);
        }
    }

    private static String shape(Method m) {
        StringBuilder s = new StringBuilder(m.getReturnType().getName()).append(' ').append(m.getName()).append('(');
        for (int i = 0; i < m.getParameterCount(); i++) {
            s.append(i > 0 ? "," : "").append(m.getParameterTypes()[i].getName());
        }
        return s.append(')').toString();
    }
}
