import java.lang.reflect.Constructor;
import java.lang.reflect.Field;
import java.lang.reflect.Method;
import java.lang.reflect.Modifier;
import java.util.Arrays;
import java.util.Set;
import java.util.TreeSet;

/** The public face, and rule 1 of LANGUAGE.md. */
public final class FaceTest {
    private static final Set<String> METHODS = new TreeSet<>(Arrays.asList(
        "boolean give(long, int)", "boolean cut(int)", "boolean poke(int, int)", "int read()",
        "int write()", "boolean check()", "int byteAt(int, boolean)", "int vertex(int, boolean)",
        "int texture(int, int)", "int sector(int, int)", "int wall(int, int)", "int start(int)",
        "int look(int)"));

    public static void main(String[] args) {
        Class<?> face = MapLumps.class;
        Due.same("NONE", MapLumps.NONE, -1);
        Due.yes("public final", face.getModifiers() == (Modifier.PUBLIC | Modifier.FINAL));
        Constructor<?>[] constructors = face.getDeclaredConstructors();
        Due.same("constructors", constructors.length, 1);
        Due.yes("the constructor", constructors[0].getModifiers() == Modifier.PUBLIC
            && constructors[0].getParameterCount() == 0);
        methods(face);
        fields(face);
        insideClasses(face);
        Due.end();
    }

    private static void methods(Class<?> face) {
        Set<String> seen = new TreeSet<>();
        for (Method m : face.getDeclaredMethods()) {
            if (!Modifier.isPrivate(m.getModifiers())) {
                seen.add(described(m));
                Due.same(m + " is public alone", m.getModifiers(), Modifier.PUBLIC);
            }
        }
        Due.yes("methods are " + seen, seen.equals(METHODS));
    }

    private static String described(Method m) {
        StringBuilder types = new StringBuilder();
        for (Class<?> type : m.getParameterTypes()) {
            types.append(types.length() == 0 ? "" : ", ").append(type.getSimpleName());
        }
        return m.getReturnType() + " " + m.getName() + "(" + types + ")";
    }

    private static void fields(Class<?> face) {
        for (Field f : face.getDeclaredFields()) {
            boolean constant = f.getName().equals("NONE");
            Due.yes(f + " is private, or the constant", constant || Modifier.isPrivate(f.getModifiers()));
            if (Modifier.isStatic(f.getModifiers())) {
                Due.yes(f + " is final", Modifier.isFinal(f.getModifiers()));
            }
        }
    }

    private static void insideClasses(Class<?> face) {
        for (Class<?> inside : face.getDeclaredClasses()) {
            int m = inside.getModifiers();
            Due.yes(inside + " is static and not public",
                Modifier.isStatic(m) && !Modifier.isPublic(m) && !Modifier.isProtected(m));
            for (Method method : inside.getDeclaredMethods()) {
                for (String named : METHODS) {
                    Due.no(method + " bears a public name", named.contains(" " + method.getName() + "("));
                }
            }
        }
    }
}
