import java.lang.reflect.Constructor;
import java.lang.reflect.Field;
import java.lang.reflect.Method;
import java.lang.reflect.Modifier;
import java.util.Set;
import java.util.TreeSet;

/** The public face is the document's, and nothing else of the class can be seen from outside. */
final class FaceTest {
    private static final Set<String> METHODS = Set.of(
            "int make(int, boolean, int)", "int change(int)", "boolean rename(int, int, int)",
            "boolean remove(int)", "boolean close(int)", "int open()", "int of(int, int)",
            "int find(int, int)", "int live()", "int tail()", "int head()", "int note(int, int)",
            "void subscribe(int, int)", "int cursor(int)", "int read(int)", "void list(int)",
            "int page(int)", "int shown(int, int)", "int follow(int, int)",
            "int copied(int, int, int)", "boolean inStep(int)", "void cutAfter(int)",
            "int start()", "boolean isOn()");

    public static void main(String[] args) {
        Class<?> face = NotedVolume.class;
        Check.yes("public", Modifier.isPublic(face.getModifiers()));
        Check.yes("final", Modifier.isFinal(face.getModifiers()));
        Check.same("NONE", -1, NotedVolume.NONE);
        Check.same("CUT", -2, NotedVolume.CUT);
        methods(face);
        fields(face);
        constructors(face);
        nested(face);
        Check.end("FaceTest");
    }

    private static void methods(Class<?> face) {
        Set<String> seen = new TreeSet<>();
        Set<String> names = new TreeSet<>();
        for (Method method : face.getDeclaredMethods()) {
            if (!Modifier.isPrivate(method.getModifiers())) {
                seen.add(written(method));
                names.add(method.getName());
            }
        }
        Check.yes("methods " + seen, seen.equals(new TreeSet<>(METHODS)));
        for (Method method : face.getDeclaredMethods()) {
            if (Modifier.isPrivate(method.getModifiers())) {
                Check.no("private " + method.getName(), names.contains(method.getName()));
            }
        }
    }

    private static String written(Method method) {
        StringBuilder text = new StringBuilder();
        text.append(method.getReturnType().getName()).append(' ').append(method.getName()).append('(');
        String gap = "";
        for (Class<?> type : method.getParameterTypes()) {
            text.append(gap).append(type.getName());
            gap = ", ";
        }
        return text.append(')').toString();
    }

    private static void fields(Class<?> face) {
        for (Field field : face.getDeclaredFields()) {
            boolean constant = field.getName().equals("NONE") || field.getName().equals("CUT");
            Check.yes(field.getName(), constant == Modifier.isPublic(field.getModifiers()));
            Check.yes(field.getName(), constant || Modifier.isPrivate(field.getModifiers()));
            Check.yes(field.getName(), !Modifier.isStatic(field.getModifiers())
                    || Modifier.isFinal(field.getModifiers()));
        }
    }

    private static void constructors(Class<?> face) {
        Constructor<?>[] all = face.getDeclaredConstructors();
        Check.same("constructors", 1, all.length);
        Check.yes("public", Modifier.isPublic(all[0].getModifiers()));
        Check.same("parameters", 0, all[0].getParameterCount());
    }

    private static void nested(Class<?> face) {
        for (Class<?> inside : face.getDeclaredClasses()) {
            Check.yes(inside.getName(), Modifier.isStatic(inside.getModifiers()));
            Check.no(inside.getName(), Modifier.isPublic(inside.getModifiers())
                    || Modifier.isProtected(inside.getModifiers()));
        }
    }
}
