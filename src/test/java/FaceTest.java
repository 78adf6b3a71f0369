import java.lang.reflect.Constructor;
import java.lang.reflect.Field;
import java.lang.reflect.Method;
import java.lang.reflect.Modifier;
import java.util.Arrays;
import java.util.TreeSet;

/** The public face: the document's members, and no other that can be seen from outside. */
public final class FaceTest {
    private static final String[] METHODS = {
        "int table() IllegalStateException",
        "int column(int,int,boolean,int) IllegalArgumentException,IllegalStateException",
        "boolean type(char) ",
        "void wipe() ",
        "int read() IllegalArgumentException",
        "int fault() ",
        "int order(int) IllegalArgumentException,UnsupportedOperationException",
        "int apply(int) IllegalArgumentException,UnsupportedOperationException,IllegalStateException",
        "int failure(int) ",
        "int rows(int) IndexOutOfBoundsException",
        "long value(int,int,int) IndexOutOfBoundsException",
        "boolean isNull(int,int,int) IndexOutOfBoundsException",
        "int begin() IllegalStateException",
        "int commit() IllegalStateException",
        "int rollback() IllegalStateException",
        "int compare(long,int) IllegalArgumentException,IllegalStateException",
        "int difference(int,int) IndexOutOfBoundsException,IllegalArgumentException",
        "int write(int) IndexOutOfBoundsException,IllegalStateException",
        "char written(int) IndexOutOfBoundsException",
    };

    public static void main(String[] args) {
        int modifiers = FixtureTables.class.getModifiers();
        Due.is("the class is public and final", 1,
                () -> Modifier.isPublic(modifiers) && Modifier.isFinal(modifiers) ? 1 : 0);
        Due.same("the methods", new TreeSet<>(Arrays.asList(METHODS)).toString(), methods().toString());
        Constructor<?>[] constructors = FixtureTables.class.getDeclaredConstructors();
        Due.is("constructors", 1, () -> constructors.length);
        Due.is("the constructor is public and takes nothing", 1, () -> Modifier.isPublic(constructors[0].getModifiers())
                && constructors[0].getParameterCount() == 0 ? 1 : 0);
        for (Field field : FixtureTables.class.getDeclaredFields()) {
            Due.is("private field " + field.getName(), 1, () -> Modifier.isPrivate(field.getModifiers()) ? 1 : 0);
        }
        Due.end();
    }

    private static TreeSet<String> methods() {
        TreeSet<String> found = new TreeSet<>();
        for (Method method : FixtureTables.class.getDeclaredMethods()) {
            if (!method.isSynthetic() && !Modifier.isPrivate(method.getModifiers())) {
                found.add(method.getReturnType() + " " + method.getName() + "("
                        + names(method.getParameterTypes()) + ") " + names(method.getExceptionTypes()));
            }
        }
        return found;
    }

    private static String names(Class<?>[] types) {
        StringBuilder text = new StringBuilder();
        for (Class<?> type : types) {
            text.append(text.length() == 0 ? "" : ",").append(type.getSimpleName());
        }
        return text.toString();
    }
}
