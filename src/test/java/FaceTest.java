import java.lang.reflect.Constructor;
import java.lang.reflect.Field;
import java.lang.reflect.Method;
import java.lang.reflect.Modifier;
import java.util.ArrayList;
import java.util.Collections;
import java.util.List;
import java.util.TreeSet;

/** The class shows what the document's face shows, and nothing else. */
public final class FaceTest {
    private static final String[] FACE = {
        "boolean contradict()",
        "boolean follows(int,int,boolean) IllegalArgumentException",
        "int clause() IllegalStateException",
        "int clauses()",
        "int close() IllegalStateException",
        "int label(int) IllegalArgumentException NoSuchElementException",
        "int level()",
        "int literal(int,int,boolean) IllegalArgumentException IllegalStateException",
        "int look(int,int) IllegalArgumentException",
        "int open() IllegalStateException",
        "int term(int,int,int) IllegalArgumentException IllegalStateException",
        "int terms()",
        "int thing(int) IllegalArgumentException",
        "int things()",
    };

    private static int wrong = 0;

    private static void check(String what, Object got, Object want) {
        if (!got.equals(want)) {
            wrong++;
            System.out.println(what + ": is " + got + ", due is " + want);
        }
    }

    private static String describe(Method m) {
        List<String> parameters = new ArrayList<>();
        for (Class<?> c : m.getParameterTypes()) {
            parameters.add(c.getSimpleName());
        }
        TreeSet<String> thrown = new TreeSet<>();
        for (Class<?> c : m.getExceptionTypes()) {
            thrown.add(" " + c.getSimpleName());
        }
        return m.getReturnType().getSimpleName() + " " + m.getName()
                + "(" + String.join(",", parameters) + ")" + String.join("", thrown);
    }

    private static void checkMethods() {
        List<String> shown = new ArrayList<>();
        TreeSet<String> names = new TreeSet<>();
        for (Method m : EqualityProver.class.getDeclaredMethods()) {
            if (!Modifier.isPrivate(m.getModifiers())) {
                shown.add(describe(m));
                names.add(m.getName());
                check(m + " is public", Modifier.isPublic(m.getModifiers()), true);
                check(m + " is static", Modifier.isStatic(m.getModifiers()), false);
            }
        }
        Collections.sort(shown);
        check("the methods", shown, List.of(FACE));
        checkPrivateNames(EqualityProver.class, names);
        for (Class<?> c : EqualityProver.class.getDeclaredClasses()) {
            checkPrivateNames(c, names);
            check(c + " is static", Modifier.isStatic(c.getModifiers()), true);
            check(c + " is hidden", Modifier.isPublic(c.getModifiers()) || Modifier.isProtected(c.getModifiers()), false);
        }
    }

    private static void checkPrivateNames(Class<?> c, TreeSet<String> publicNames) {
        for (Method m : c.getDeclaredMethods()) {
            if (Modifier.isPrivate(m.getModifiers())) {
                check(m + " bears the name of a public one", publicNames.contains(m.getName()), false);
            }
        }
    }

    private static void checkFields(Class<?> c) {
        for (Field f : c.getDeclaredFields()) {
            check(f + " is private", Modifier.isPrivate(f.getModifiers()), true);
            if (Modifier.isStatic(f.getModifiers())) {
                check(f + " is final", Modifier.isFinal(f.getModifiers()), true);
            }
        }
    }

    public static void main(String[] args) {
        check("the class is public and final",
                EqualityProver.class.getModifiers(), Modifier.PUBLIC | Modifier.FINAL);
        Constructor<?>[] constructors = EqualityProver.class.getDeclaredConstructors();
        check("the number of constructors", constructors.length, 1);
        check("the constructor", constructors[0].toString(), "public EqualityProver(int)");
        checkMethods();
        checkFields(EqualityProver.class);
        System.out.println(wrong == 0 ? "the face is as due" : wrong + " points are not as due");
        if (wrong != 0) {
            System.exit(1);
        }
    }
}
