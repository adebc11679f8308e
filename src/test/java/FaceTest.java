import java.lang.reflect.Constructor;
import java.lang.reflect.Field;
import java.lang.reflect.Method;
import java.lang.reflect.Modifier;
import java.util.Arrays;
import java.util.TreeSet;

/** The public face of the document, and nothing beside it. */
public final class FaceTest {
    private static final String[] METHODS = {
        "int type(char) IllegalArgumentException IllegalStateException",
        "void cut(int) IllegalArgumentException",
        "int word(int) IndexOutOfBoundsException IllegalStateException IllegalArgumentException UnsupportedOperationException",
        "int rule(int) IllegalArgumentException UnsupportedOperationException",
        "int equate(int,int,int,int) IndexOutOfBoundsException IllegalArgumentException UnsupportedOperationException",
        "int form(int,int) IndexOutOfBoundsException",
        "int distance(int,int,int,int) IndexOutOfBoundsException",
        "int join(int) IndexOutOfBoundsException IllegalStateException UnsupportedOperationException",
        "int retract() IllegalStateException",
        "int places()",
        "int at(int,int) IndexOutOfBoundsException",
        "int beside(int,int,int) IndexOutOfBoundsException",
        "void base(int) IndexOutOfBoundsException IllegalStateException",
        "void choose(int,int) IndexOutOfBoundsException IllegalStateException",
        "int apparatus(boolean)",
        "int out(int) IndexOutOfBoundsException",
        "void amend(int,char) IndexOutOfBoundsException",
        "int rebuild(int) IndexOutOfBoundsException IllegalStateException",
        "int built(int,int)",
        "int concord()",
        "int found(int) IndexOutOfBoundsException",
        "int blocks(int,int) IndexOutOfBoundsException IllegalArgumentException IllegalStateException",
        "int block(int,int) IndexOutOfBoundsException",
        "void parent(int,int) IndexOutOfBoundsException IllegalStateException",
        "int changes(int) IndexOutOfBoundsException",
    };

    private static int wrong = 0;

    public static void main(String[] args) {
        checkMethods();
        checkFields();
        Constructor<?>[] constructors = WitnessBench.class.getDeclaredConstructors();
        check("one public constructor", constructors.length == 1 && Modifier.isPublic(constructors[0].getModifiers())
                && constructors[0].getParameterCount() == 0);
        int modifiers = WitnessBench.class.getModifiers();
        check("public and final", Modifier.isPublic(modifiers) && Modifier.isFinal(modifiers));
        for (Class<?> inside : WitnessBench.class.getDeclaredClasses()) {
            int m = inside.getModifiers();
            check(inside + " is static, not public", Modifier.isStatic(m) && !Modifier.isPublic(m));
        }
        if (wrong > 0) {
            System.exit(1);
        }
    }

    private static void checkMethods() {
        TreeSet<String> due = new TreeSet<>(Arrays.asList(METHODS));
        TreeSet<String> names = new TreeSet<>();
        for (String s : METHODS) {
            names.add(s.substring(s.indexOf(' ') + 1, s.indexOf('(')));
        }
        TreeSet<String> got = new TreeSet<>();
        for (Method m : WitnessBench.class.getDeclaredMethods()) {
            if (Modifier.isPrivate(m.getModifiers())) {
                check("private method " + m.getName() + " has a name of its own", !names.contains(m.getName()));
            } else {
                check(m + " is public, not static", Modifier.isPublic(m.getModifiers())
                        && !Modifier.isStatic(m.getModifiers()));
                got.add(told(m));
            }
        }
        for (String s : due) {
            check("there must be " + s, got.contains(s));
        }
        for (String s : got) {
            check("there must not be " + s, due.contains(s));
        }
    }

    private static String told(Method m) {
        StringBuilder b = new StringBuilder();
        b.append(m.getReturnType().getSimpleName()).append(' ').append(m.getName()).append('(');
        for (int k = 0; k < m.getParameterCount(); k++) {
            b.append(k == 0 ? "" : ",").append(m.getParameterTypes()[k].getSimpleName());
        }
        b.append(')');
        for (Class<?> thrown : m.getExceptionTypes()) {
            b.append(' ').append(thrown.getSimpleName());
        }
        return b.toString();
    }

    private static void checkFields() {
        for (Field f : WitnessBench.class.getDeclaredFields()) {
            int m = f.getModifiers();
            if (f.getName().equals("NONE")) {
                check("NONE is a public constant", Modifier.isPublic(m) && Modifier.isStatic(m) && Modifier.isFinal(m)
                        && f.getType() == int.class);
            } else {
                check(f + " is private", Modifier.isPrivate(m));
            }
            check(f + ": static fields are final", !Modifier.isStatic(m) || Modifier.isFinal(m));
        }
    }

    private static void check(String what, boolean holds) {
        if (!holds) {
            wrong++;
            System.out.println("not so: " + what);
        }
    }
}
