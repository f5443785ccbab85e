import java.lang.reflect.Constructor;
import java.lang.reflect.Field;
import java.lang.reflect.Method;
import java.lang.reflect.Modifier;
import java.util.ArrayList;
import java.util.Arrays;
import java.util.List;
import java.util.Set;
import java.util.TreeSet;

/** The class's face is the document's and nothing else (LANGUAGE.md, rules 1 and 5). */
public final class FaceTest {
    private static final List<String> FACE = List.of(
        "int make(int, int) IndexOutOfBoundsException IllegalStateException",
        "int store(int, int, int) IndexOutOfBoundsException IllegalArgumentException",
        "int load(int, int, int) IndexOutOfBoundsException IllegalArgumentException",
        "int value(int) IndexOutOfBoundsException IllegalArgumentException",
        "int copy(int, int) IndexOutOfBoundsException",
        "boolean drop(int) IndexOutOfBoundsException",
        "int budget(int) IllegalArgumentException",
        "int collect()",
        "int thorough()",
        "int faults()",
        "int objects()",
        "int page(int)",
        "int count(int)",
        "int places(int)",
        "int hand()");

    private FaceTest() {
    }

    public static void main(String[] args) {
        Due.is("class is public and final", BookmarkHeap.class.getModifiers(), Modifier.PUBLIC | Modifier.FINAL);
        Due.is("public methods", publicMethods(), new TreeSet<>(FACE));
        constructors();
        membersAreHidden();
        namesAreApart();
        Due.end();
    }

    private static Set<String> publicMethods() {
        Set<String> found = new TreeSet<>();
        for (Method method : BookmarkHeap.class.getDeclaredMethods()) {
            if (!Modifier.isPrivate(method.getModifiers())) {
                Due.is(method.getName() + " is public and nothing more", method.getModifiers(), Modifier.PUBLIC);
                found.add(described(method));
            }
        }
        return found;
    }

    private static String described(Method method) {
        List<String> parameters = new ArrayList<>();
        for (Class<?> type : method.getParameterTypes()) {
            parameters.add(type.getSimpleName());
        }
        StringBuilder text = new StringBuilder();
        text.append(method.getReturnType().getSimpleName()).append(' ').append(method.getName());
        text.append('(').append(String.join(", ", parameters)).append(')');
        for (Class<?> type : method.getExceptionTypes()) {
            text.append(' ').append(type.getSimpleName());
        }
        return text.toString();
    }

    private static void constructors() {
        Constructor<?>[] all = BookmarkHeap.class.getDeclaredConstructors();
        Due.is("constructors", Arrays.toString(all), "[public BookmarkHeap()]");
    }

    private static void membersAreHidden() {
        for (Field field : BookmarkHeap.class.getDeclaredFields()) {
            int modifiers = field.getModifiers();
            Due.is(field.getName() + " is private", Modifier.isPrivate(modifiers), true);
            Due.is(field.getName() + " is final if static",
                !Modifier.isStatic(modifiers) || Modifier.isFinal(modifiers), true);
        }
    }

    private static void namesAreApart() {
        Set<String> faceNames = new TreeSet<>();
        for (Method method : BookmarkHeap.class.getMethods()) {
            faceNames.add(method.getName());
        }
        for (Method method : BookmarkHeap.class.getDeclaredMethods()) {
            if (Modifier.isPrivate(method.getModifiers())) {
                Due.is("the face has a name " + method.getName(), faceNames.contains(method.getName()), false);
                Due.is(method.getName() + " takes at most seven", method.getParameterCount() <= 7, true);
            }
        }
    }
}
