import java.lang.reflect.Field;
import java.lang.reflect.Method;
import java.lang.reflect.Modifier;
import java.util.Arrays;
import java.util.Map;
import java.util.Set;
import java.util.TreeMap;
import java.util.TreeSet;

/** The class has the document's face and nothing beside it (rules 1, 5, 11 of LANGUAGE.md). */
public final class FaceTest {
    private static final String N = "java.util.NoSuchElementException";
    private static final String A = "java.lang.IllegalArgumentException";
    private static final String S = "java.lang.IllegalStateException";
    private static final String I = "int";
    private static int wrong = 0;

    private static void check(boolean holds, String what) {
        if (!holds) {
            wrong++;
            System.out.println("the face: " + what);
        }
    }

    private static String form(String answer, String parameters, String... thrown) {
        return answer + " (" + parameters + ") " + Arrays.toString(thrown);
    }

    private static String ints(int n) {
        return String.join(",", java.util.Collections.nCopies(n, I));
    }

    private static Map<String, String> dueMethods() {
        Map<String, String> due = new TreeMap<>();
        due.put("thing", form(I, "", S));
        due.put("owner", form(I, ints(5), N, A, S));
        due.put("share", form("void", ints(3), N, A));
        due.put("doubt", form("boolean", "int,boolean", N));
        due.put("correct", form("void", ints(4), N, A, S));
        due.put("known", form(I, ints(3), N, A));
        due.put("gap", form(I, ints(4), N, A));
        due.put("held", form(I, ints(4), N, A, S));
        due.put("danger", form(I, ints(3), N, A, S));
        due.put("asked", form(I, ints(3), N, A));
        due.put("claim", form(I, ints(3), N, A, S));
        due.put("settle", form("void", ints(2), N, A, S));
        due.put("stops", form("boolean", ints(2), N, A));
        due.put("tell", form("void", ints(3), N, A));
        due.put("rights", form(I, ints(3), N, A));
        due.put("licence", form(I, ints(4), N, A, S));
        due.put("licensed", form("boolean", ints(3), N, A));
        due.put("seal", form("boolean", "int,int,boolean", N));
        due.put("seen", form(I, ints(4), N, A));
        due.put("worth", form(I, ints(4), N, A, S));
        due.put("value", form(I, ints(3), N, A));
        due.put("chain", form(I, ints(3), N, A));
        return due;
    }

    private static String formOf(Method m) {
        String[] parameters = Arrays.stream(m.getParameterTypes()).map(Class::getName).toArray(String[]::new);
        String[] thrown = Arrays.stream(m.getExceptionTypes()).map(Class::getName).toArray(String[]::new);
        return form(m.getReturnType().getName(), String.join(",", parameters), thrown);
    }

    private static void checkMethods() {
        Map<String, String> found = new TreeMap<>();
        Set<String> hidden = new TreeSet<>();
        for (Method m : OwnerRows.class.getDeclaredMethods()) {
            if (Modifier.isPublic(m.getModifiers())) {
                check(found.put(m.getName(), formOf(m)) == null, m.getName() + " is there twice");
                check(!Modifier.isStatic(m.getModifiers()), m.getName() + " is static");
            } else {
                check(Modifier.isPrivate(m.getModifiers()), m.getName() + " is neither public nor private");
                hidden.add(m.getName());
            }
        }
        Map<String, String> due = dueMethods();
        check(found.equals(due), "methods are " + found + ", due are " + due);
        hidden.retainAll(due.keySet());
        check(hidden.isEmpty(), "private methods with public names: " + hidden);
    }

    private static void checkFields(Class<?> c) {
        int own = 0;
        for (Field f : c.getDeclaredFields()) {
            int m = f.getModifiers();
            boolean isNone = c == OwnerRows.class && f.getName().equals("NONE");
            check(isNone || c != OwnerRows.class || Modifier.isPrivate(m), f + " is not private");
            check(!Modifier.isStatic(m) || Modifier.isFinal(m), f + " is static and not final");
            own += Modifier.isStatic(m) ? 0 : 1;
        }
        check(own <= 20, c + " has " + own + " fields");
    }

    public static void main(String[] args) throws Exception {
        Class<OwnerRows> c = OwnerRows.class;
        check(Modifier.isPublic(c.getModifiers()) && Modifier.isFinal(c.getModifiers()), "not public and final");
        check(c.getDeclaredConstructors().length == 1, "more than one constructor");
        check(Modifier.isPublic(c.getConstructor().getModifiers()), "the constructor is not public");
        check(c.getField("NONE").getInt(null) == -1, "NONE is not -1");
        checkMethods();
        checkFields(c);
        check(c.getDeclaredClasses().length <= 11, "more than twelve classes");
        for (Class<?> inside : c.getDeclaredClasses()) {
            check(Modifier.isStatic(inside.getModifiers()), inside + " is not static");
            checkFields(inside);
        }
        System.out.println(wrong == 0 ? "the face is as due" : wrong + " faults of the face");
        if (wrong != 0) {
            System.exit(1);
        }
    }
}
