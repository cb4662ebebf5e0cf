import java.lang.reflect.Constructor;
import java.lang.reflect.Field;
import java.lang.reflect.Method;
import java.lang.reflect.Modifier;
import java.util.ArrayList;
import java.util.List;
import java.util.Set;
import java.util.TreeSet;

/** The public face is the document's, and nothing else of the class can be seen from outside. */
final class FaceTest {
    // The exceptions stand without the end of their names.
    private static final Set<String> METHODS = Set.of(
            "int make(int, boolean, int)"
                    + " throws IllegalState, IllegalArgument, NoSuchElement, UnsupportedOperation",
            "int change(int) throws IllegalState, NoSuchElement, UnsupportedOperation",
            "boolean rename(int, int, int)"
                    + " throws IllegalState, IllegalArgument, NoSuchElement, UnsupportedOperation",
            "boolean remove(int) throws IllegalState, NoSuchElement, UnsupportedOperation",
            "boolean close(int) throws IllegalState, NoSuchElement",
            "int open()",
            "int of(int, int) throws NoSuchElement, IndexOutOfBounds",
            "int find(int, int)",
            "int live()",
            "int tail()",
            "int head()",
            "int note(int, int) throws NoSuchElement, IndexOutOfBounds",
            "void subscribe(int, int) throws IndexOutOfBounds, IllegalArgument",
            "int cursor(int) throws IndexOutOfBounds",
            "int read(int) throws IndexOutOfBounds",
            "void list(int) throws IndexOutOfBounds",
            "int page(int) throws IndexOutOfBounds, IllegalState",
            "int shown(int, int) throws IndexOutOfBounds",
            "int follow(int, int) throws IndexOutOfBounds, IllegalArgument",
            "int copied(int, int, int) throws IndexOutOfBounds, NoSuchElement",
            "boolean inStep(int) throws IndexOutOfBounds",
            "void cutAfter(int) throws IllegalArgument",
            "int start()",
            "boolean isOn()");

    public static void main(String[] args) {
        Class<?> face = NotedVolume.class;
        Check.yes("public", Modifier.isPublic(face.getModifiers()));
        Check.yes("final", Modifier.isFinal(face.getModifiers()));
        Check.same("NONE", -1, NotedVolume.NONE);
        Check.same("CUT", -2, NotedVolume.CUT);
        methods(face);
        fields(face);
        constructors(face);
        nested(face);
        Check.end("FaceTest");
    }

    private static void methods(Class<?> face) {
        Set<String> seen = new TreeSet<>();
        Set<String> names = new TreeSet<>();
        for (Method method : face.getDeclaredMethods()) {
            if (!Modifier.isPrivate(method.getModifiers())) {
                seen.add(written(method));
                Check.yes(method.getName(), Modifier.isPublic(method.getModifiers()));
                Check.no(method.getName(), Modifier.isStatic(method.getModifiers()));
                names.add(method.getName());
            }
        }
        Check.sameText("methods", new TreeSet<>(METHODS).toString(), seen.toString());
        for (Method method : face.getDeclaredMethods()) {
            if (Modifier.isPrivate(method.getModifiers())) {
                Check.no("private " + method.getName(), names.contains(method.getName()));
            }
        }
    }

    private static String written(Method method) {
        Class<?>[] thrown = method.getExceptionTypes();
        return method.getReturnType().getName() + " " + method.getName()
                + "(" + names(method.getParameterTypes()) + ")"
                + (thrown.length == 0 ? "" : " throws " + names(thrown));
    }

    private static String names(Class<?>[] types) {
        List<String> names = new ArrayList<>();
        for (Class<?> type : types) {
            names.add(type.getSimpleName().replace("Exception", ""));
        }
        return String.join(", ", names);
    }

    private static void fields(Class<?> face) {
        for (Field field : face.getDeclaredFields()) {
            boolean constant = field.getName().equals("NONE") || field.getName().equals("CUT");
            Check.yes(field.getName(), constant == Modifier.isPublic(field.getModifiers()));
            Check.yes(field.getName(), constant || Modifier.isPrivate(field.getModifiers()));
            Check.yes(field.getName(), !Modifier.isStatic(field.getModifiers())
                    || Modifier.isFinal(field.getModifiers()));
        }
    }

    private static void constructors(Class<?> face) {
        Constructor<?>[] all = face.getDeclaredConstructors();
        Check.same("constructors", 1, all.length);
        Check.yes("public", Modifier.isPublic(all[0].getModifiers()));
        Check.same("parameters", 0, all[0].getParameterCount());
    }

    private static void nested(Class<?> face) {
        for (Class<?> inside : face.getDeclaredClasses()) {
            Check.yes(inside.getName(), Modifier.isStatic(inside.getModifiers()));
            Check.no(inside.getName(), Modifier.isPublic(inside.getModifiers())
                    || Modifier.isProtected(inside.getModifiers()));
        }
    }
}
