import java.lang.reflect.Constructor;
import java.lang.reflect.Field;
import java.lang.reflect.Method;
import java.lang.reflect.Modifier;
import java.util.HashSet;
import java.util.Set;
import java.util.TreeSet;

/** The public face: just the members of the document, and what LANGUAGE.md says of the others. */
final class FaceTest {
    private static final String[] FACE = {
        "int frame(int, int, int) IllegalArgumentException IllegalStateException",
        "int silence()",
        "int speak(int) IndexOutOfBoundsException",
        "int shift(int, int, int) IndexOutOfBoundsException IllegalArgumentException",
        "int shiftOf(int, int) IndexOutOfBoundsException IllegalArgumentException",
        "long fit() IllegalStateException",
        "int sound(int, int, int, int) IllegalArgumentException IllegalStateException",
        "int question(int, int, int, int) IndexOutOfBoundsException IllegalArgumentException IllegalStateException",
        "int type(char) IllegalArgumentException IllegalStateException",
        "int word(int) IllegalArgumentException IllegalStateException",
        "int saying(int, int) IndexOutOfBoundsException IllegalArgumentException IllegalStateException",
        "int form(int, int, int) IndexOutOfBoundsException",
        "long cost(int, int, int) IndexOutOfBoundsException IllegalArgumentException",
        "long over(int, int, int) IndexOutOfBoundsException IllegalArgumentException",
        "int learn(int) IllegalArgumentException",
        "int back(int) IllegalArgumentException",
        "int factor(int) IllegalArgumentException",
        "long price(int, int) IndexOutOfBoundsException",
        "long weight(int) IllegalArgumentException",
        "long weightAnew(int) IllegalArgumentException",
        "int best(int) IllegalArgumentException",
        "long found(long, int, int) IllegalArgumentException",
        "int arcs(long) IllegalArgumentException",
        "long arc(long, int, int) IndexOutOfBoundsException IllegalArgumentException",
        "long keyword(int) IndexOutOfBoundsException",
        "int sure(long, int) IndexOutOfBoundsException IllegalArgumentException IllegalStateException",
        "int path(int, int) IndexOutOfBoundsException IllegalArgumentException IllegalStateException",
        "int errors(int) IllegalArgumentException IllegalStateException",
        "int sum(int) IllegalArgumentException",
    };

    public static void main(String[] args) {
        Class<?> face = Latticehear.class;
        Check.that("the class is public and final",
            Modifier.isPublic(face.getModifiers()) && Modifier.isFinal(face.getModifiers()));
        methods(face);
        fields(face);
        constructors(face);
        inside(face);
        Check.end();
    }

    private static void methods(Class<?> face) {
        Set<String> due = new TreeSet<>(Set.of(FACE));
        Set<String> names = new HashSet<>();
        for (String one : FACE) {
            names.add(one.substring(one.indexOf(' ') + 1, one.indexOf('(')));
        }
        for (Method method : face.getDeclaredMethods()) {
            if (Modifier.isPublic(method.getModifiers())) {
                Check.that("the document has " + told(method), due.remove(told(method)));
            } else if (!method.isSynthetic()) {
                Check.that(method + " is private", Modifier.isPrivate(method.getModifiers()));
                Check.that(method + " has a name of its own", !names.contains(method.getName()));
            }
        }
        Check.that("there are " + due, due.isEmpty());
        for (Class<?> nested : face.getDeclaredClasses()) {
            for (Method method : nested.getDeclaredMethods()) {
                Check.that(method + " has a name of its own", !names.contains(method.getName()));
                Check.that(method + " has at most 7 parameters", method.getParameterCount() <= 7);
            }
        }
    }

    private static String told(Method method) {
        StringBuilder told = new StringBuilder();
        told.append(method.getReturnType().getSimpleName()).append(' ').append(method.getName()).append('(');
        String gap = "";
        for (Class<?> parameter : method.getParameterTypes()) {
            told.append(gap).append(parameter.getSimpleName());
            gap = ", ";
        }
        told.append(')');
        for (Class<?> thrown : method.getExceptionTypes()) {
            told.append(' ').append(thrown.getSimpleName());
        }
        return told.toString();
    }

    private static void fields(Class<?> face) {
        Set<String> due = new TreeSet<>(Set.of("NONE", "LEFT", "RIGHT"));
        int own = 0;
        for (Field field : face.getDeclaredFields()) {
            int kind = field.getModifiers();
            if (Modifier.isPublic(kind)) {
                Check.that("the constant " + field, due.remove(field.getName()) && field.getType() == int.class
                    && Modifier.isStatic(kind) && Modifier.isFinal(kind));
            } else if (!field.isSynthetic()) {
                Check.that(field + " is private", Modifier.isPrivate(kind));
                Check.that(field + " is no static state", !Modifier.isStatic(kind) || Modifier.isFinal(kind));
                own += Modifier.isStatic(kind) ? 0 : 1;
            }
        }
        Check.that("there are " + due, due.isEmpty());
        Check.that("the class has at most 20 fields", own <= 20);
    }

    private static void constructors(Class<?> face) {
        Constructor<?>[] all = face.getDeclaredConstructors();
        Check.that("one constructor, public, without arguments", all.length == 1
            && Modifier.isPublic(all[0].getModifiers()) && all[0].getParameterCount() == 0);
    }

    private static void inside(Class<?> face) {
        Class<?>[] nested = face.getDeclaredClasses();
        Check.that("at most 12 classes", nested.length + 1 <= 12);
        for (Class<?> one : nested) {
            int kind = one.getModifiers();
            Check.that(one + " is static", Modifier.isStatic(kind));
            Check.that(one + " is private or package-visible", !Modifier.isPublic(kind) && !Modifier.isProtected(kind));
            int own = 0;
            for (Field field : one.getDeclaredFields()) {
                own += Modifier.isStatic(field.getModifiers()) ? 0 : 1;
            }
            Check.that(one + " has at most 20 fields", own <= 20);
        }
    }
}
