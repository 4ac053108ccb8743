import java.lang.reflect.Constructor;
import java.lang.reflect.Executable;
import java.lang.reflect.Field;
import java.lang.reflect.Method;
import java.lang.reflect.Modifier;
import java.util.Set;
import java.util.TreeSet;

/**
 * The public face: "public final class PlayStates" with the constructor and the methods that stand there, and nothing
 * else that can be seen (LANGUAGE.md, rule 1).
 */
public final class FaceTest {
    private static final Due due = new Due();

    private static final String CONSTRUCTOR = "public PlayStates(int places);";

    /** As the document writes them, in its order. */
    private static final String[] FACE = {
        "public int person();",
        "public int enter(int person, int place, int v);",
        "public int mark(int person, int place, int v, boolean on);",
        "public int undo(int person);",
        "public int redo(int person, int k);",
        "public int branches(int person);",
        "public int at(int person, int place);",
        "public int marks(int person, int place);",
        "public boolean truth(int place, int v);",
        "public int wrong(int person);",
        "public int help(int person);",
        "public int helps(int person);",
        "public boolean timer(int person, long ms, boolean run);",
        "public long time(int person, long ms);",
        "public int join(int person, int other);",
        "public int save(int person, int i);",
        "public boolean unit(int u);",
        "public int load();",
        "public int rows();",
    };

    public static void main(String[] args) {
        Class<?> face = PlayStates.class;
        due.same("public and final", face.getModifiers(), Modifier.PUBLIC | Modifier.FINAL);
        due.same("its name, without a package", face.getName(), "PlayStates");
        methods(face);
        constructors(face);
        fields(face);
        classesInside(face);
        due.end();
    }

    private static void methods(Class<?> face) {
        Set<String> want = new TreeSet<>();
        for (String written : FACE) {
            want.add(withoutNames(written));
        }
        Set<String> got = new TreeSet<>();
        Set<String> publicNames = new TreeSet<>();
        for (Method m : face.getDeclaredMethods()) {
            if (!Modifier.isPrivate(m.getModifiers())) {
                got.add(asWritten(m));
                publicNames.add(m.getName());
                due.same(m.getName() + " is public and not static", m.getModifiers(), Modifier.PUBLIC);
            }
        }
        due.same("the methods", got.toString(), want.toString());
        for (Method m : face.getDeclaredMethods()) {
            if (Modifier.isPrivate(m.getModifiers())) {
                due.same("a private method " + m.getName() + " with a public name", publicNames.contains(m.getName()), false);
            }
        }
    }

    /** The names of parameters are not in the compiled class. */
    private static String withoutNames(String written) {
        return written.replaceAll("(int|long|boolean) \\w+(?=[,)])", "$1");
    }

    private static String asWritten(Method m) {
        return "public " + m.getReturnType().getName() + " " + m.getName() + parameters(m) + ";";
    }

    private static String parameters(Executable e) {
        StringBuilder text = new StringBuilder("(");
        String comma = "";
        for (Class<?> parameter : e.getParameterTypes()) {
            text.append(comma).append(parameter.getName());
            comma = ", ";
        }
        return text.append(')').toString();
    }

    private static void constructors(Class<?> face) {
        Constructor<?>[] all = face.getDeclaredConstructors();
        due.same("constructors", all.length, 1);
        due.same("the constructor is public", all[0].getModifiers(), Modifier.PUBLIC);
        due.same("the constructor", "public " + face.getName() + parameters(all[0]) + ";", withoutNames(CONSTRUCTOR));
    }

    private static void fields(Class<?> face) {
        for (Field f : face.getDeclaredFields()) {
            due.same(f.getName() + " is private", Modifier.isPrivate(f.getModifiers()), true);
            if (Modifier.isStatic(f.getModifiers())) {
                due.same(f.getName() + " is final", Modifier.isFinal(f.getModifiers()), true);
            }
        }
    }

    private static void classesInside(Class<?> face) {
        for (Class<?> inside : face.getDeclaredClasses()) {
            int modifiers = inside.getModifiers();
            due.same(inside.getName() + " is static", Modifier.isStatic(modifiers), true);
            due.same(inside.getName() + " cannot be seen", Modifier.isPublic(modifiers) || Modifier.isProtected(modifiers), false);
        }
    }
}
