import java.lang.reflect.Constructor;
import java.lang.reflect.Field;
import java.lang.reflect.Method;
import java.lang.reflect.Modifier;
import java.util.Arrays;
import java.util.Set;
import java.util.TreeSet;

/** The document's face, whole and with nothing beside it, and what LANGUAGE.md says of members. */
public final class FaceTest {
    private static final Set<String> FACE = Set.of(
        "boolean type(int)",
        "void wipe()",
        "int length()",
        "int literal() IllegalStateException",
        "int bounds(long,long,int) IllegalArgumentException,IllegalStateException",
        "int unary(int,int) IllegalArgumentException,IndexOutOfBoundsException,IllegalStateException",
        "int binary(int,int,int) IllegalArgumentException,IndexOutOfBoundsException,IllegalStateException",
        "int filled()",
        "int decoration(int) IndexOutOfBoundsException",
        "boolean isEmpty(int)",
        "long lower(int)",
        "long upper(int)",
        "boolean relation(int,int,int)",
        "long number(int,int)",
        "long clamp(int,long)",
        "void clear()");

    public static void main(String[] args) {
        Class<?> face = OutwardTape.class;
        Check.due("public and final", face.getModifiers(), Modifier.PUBLIC | Modifier.FINAL);
        Set<String> found = new TreeSet<>();
        Set<String> names = new TreeSet<>();
        for (Method method : face.getDeclaredMethods()) {
            if (!Modifier.isPrivate(method.getModifiers())) {
                Check.due(method + " is public", method.getModifiers(), Modifier.PUBLIC);
                found.add(told(method));
                names.add(method.getName());
            }
        }
        if (!found.equals(FACE)) {
            System.out.println("found " + found + "\ndue   " + FACE);
        }
        Check.due("the face is the document's", found.equals(FACE), true);
        Constructor<?>[] constructors = face.getDeclaredConstructors();
        Check.due("constructors", constructors.length, 1);
        Check.due("the constructor's parameters", constructors[0].getParameterCount(), 0);
        Check.due("the constructor is public", constructors[0].getModifiers(), Modifier.PUBLIC);
        members(face, names);
        for (Class<?> inside : face.getDeclaredClasses()) {
            Check.due(inside + " is static", Modifier.isStatic(inside.getModifiers()), true);
            members(inside, names);
        }
        Check.due("classes", face.getDeclaredClasses().length <= 11, true);
        Check.finish();
    }

    private static void members(Class<?> where, Set<String> names) {
        for (Field field : where.getDeclaredFields()) {
            int how = field.getModifiers();
            Check.due(field + " is final if static", Modifier.isStatic(how) && !Modifier.isFinal(how), false);
            Check.due(field + " is private", where != OutwardTape.class || Modifier.isPrivate(how), true);
        }
        for (Method method : where.getDeclaredMethods()) {
            boolean isFace = where == OutwardTape.class && Modifier.isPublic(method.getModifiers());
            Check.due(method + " bears a name of the face", !isFace && names.contains(method.getName()), false);
            Check.due(method + " has few parameters", method.getParameterCount() <= 7, true);
        }
    }

    private static String told(Method method) {
        String types = String.join(",", Arrays.stream(method.getParameterTypes()).map(Class::getSimpleName).toList());
        String thrown = String.join(",", Arrays.stream(method.getExceptionTypes()).map(Class::getSimpleName).toList());
        return (method.getReturnType().getSimpleName() + " " + method.getName() + "(" + types + ") " + thrown).trim();
    }
}
