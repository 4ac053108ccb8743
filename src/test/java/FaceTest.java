import java.lang.reflect.Constructor;
import java.lang.reflect.Field;
import java.lang.reflect.Method;
import java.lang.reflect.Modifier;
import java.util.Set;
import java.util.TreeSet;

/** The class has the document's face, and nothing else can be seen of it. */
public final class FaceTest {
    private static final Due due = new Due();

    private static final String[] FACE = {"int person()", "int enter(int,int,int)", "int mark(int,int,int,boolean)",
        "int undo(int)", "int redo(int,int)", "int branches(int)", "int at(int,int)", "int marks(int,int)",
        "boolean truth(int,int)", "int wrong(int)", "int help(int)", "int helps(int)",
        "boolean timer(int,long,boolean)", "long time(int,long)", "int join(int,int)", "int save(int,int)",
        "boolean unit(int)", "int load()", "int rows()"};

    public static void main(String[] args) {
        Class<?> face = PlayStates.class;
        due.same("public and final", face.getModifiers(), Modifier.PUBLIC | Modifier.FINAL);
        methods(face);
        constructors(face);
        fields(face);
        classesInside(face);
        due.end();
    }

    private static void methods(Class<?> face) {
        Set<String> want = new TreeSet<>(Set.of(FACE));
        Set<String> got = new TreeSet<>();
        Set<String> publicNames = new TreeSet<>();
        for (Method m : face.getDeclaredMethods()) {
            if (!Modifier.isPrivate(m.getModifiers())) {
                got.add(asWritten(m));
                publicNames.add(m.getName());
                due.same(m.getName() + " is public and not static", m.getModifiers(), Modifier.PUBLIC);
            }
        }
        due.same("the methods", got.toString(), want.toString());
        for (Method m : face.getDeclaredMethods()) {
            if (Modifier.isPrivate(m.getModifiers())) {
                due.same("a private method " + m.getName() + " with a public name", publicNames.contains(m.getName()), false);
            }
        }
    }

    private static String asWritten(Method m) {
        StringBuilder text = new StringBuilder(m.getReturnType().getName()).append(' ').append(m.getName()).append('(');
        String comma = "";
        for (Class<?> parameter : m.getParameterTypes()) {
            text.append(comma).append(parameter.getName());
            comma = ",";
        }
        return text.append(')').toString();
    }

    private static void constructors(Class<?> face) {
        Constructor<?>[] all = face.getDeclaredConstructors();
        due.same("constructors", all.length, 1);
        due.same("the constructor is public", all[0].getModifiers(), Modifier.PUBLIC);
        due.same("its parameters", all[0].getParameterCount(), 1);
        due.same("its parameter", all[0].getParameterTypes()[0].getName(), "int");
    }

    private static void fields(Class<?> face) {
        for (Field f : face.getDeclaredFields()) {
            due.same(f.getName() + " is private", Modifier.isPrivate(f.getModifiers()), true);
            if (Modifier.isStatic(f.getModifiers())) {
                due.same(f.getName() + " is final", Modifier.isFinal(f.getModifiers()), true);
            }
        }
    }

    private static void classesInside(Class<?> face) {
        for (Class<?> inside : face.getDeclaredClasses()) {
            int modifiers = inside.getModifiers();
            due.same(inside.getName() + " is static", Modifier.isStatic(modifiers), true);
            due.same(inside.getName() + " cannot be seen", Modifier.isPublic(modifiers) || Modifier.isProtected(modifiers), false);
        }
    }
}
