import java.lang.reflect.Constructor;
import java.lang.reflect.Field;
import java.lang.reflect.Member;
import java.lang.reflect.Method;
import java.lang.reflect.Modifier;
import java.util.Arrays;
import java.util.TreeSet;

/** The face: what the document lists, and nothing else that can be seen from outside. */
final class FaceTest {
    private static final String[] FACE = {
        "KindParser()",
        "NONE int",
        "boolean grounded(int)",
        "int character(int) IndexOutOfBoundsException",
        "int count(int)",
        "int erase()",
        "int part(int,int) IndexOutOfBoundsException",
        "int parts()",
        "int print(int) IllegalArgumentException IllegalStateException",
        "int repair() UnsupportedOperationException IllegalStateException",
        "int rest() IllegalStateException",
        "int rule(int,int,int,boolean) IllegalArgumentException IllegalStateException",
        "int token(int,int) IndexOutOfBoundsException",
        "int tokens()",
        "int write(long,int) IllegalArgumentException IllegalStateException",
    };

    public static void main(String[] args) {
        Class<?> c = KindParser.class;
        Checks.sentence("The constants: NONE = -1");
        Checks.due("NONE", KindParser.NONE, -1);
        Checks.sentence("The public face");
        Checks.due("the class is public", Modifier.isPublic(c.getModifiers()), true);
        Checks.due("the class is final", Modifier.isFinal(c.getModifiers()), true);
        Checks.same("the face", seen(c).toString(), new TreeSet<>(Arrays.asList(FACE)).toString());
        for (Class<?> inner : c.getDeclaredClasses()) {
            Checks.due(inner.getName() + " is static", Modifier.isStatic(inner.getModifiers()), true);
            Checks.due(inner.getName() + " is public", Modifier.isPublic(inner.getModifiers()), false);
        }
        for (Field field : c.getDeclaredFields()) {
            boolean changes = Modifier.isStatic(field.getModifiers()) && !Modifier.isFinal(field.getModifiers());
            Checks.due(field.getName() + " is static and changes", changes, false);
        }
        Checks.end();
    }

    private static TreeSet<String> seen(Class<?> c) {
        TreeSet<String> face = new TreeSet<>();
        for (Constructor<?> made : c.getDeclaredConstructors()) {
            if (isSeen(made)) {
                face.add("KindParser" + list(made.getParameterTypes(), ",", "(", ")"));
            }
        }
        for (Method method : c.getDeclaredMethods()) {
            if (isSeen(method)) {
                face.add(method.getReturnType().getSimpleName() + " " + method.getName()
                        + list(method.getParameterTypes(), ",", "(", ")") + list(method.getExceptionTypes(), " ", " ", ""));
            }
        }
        for (Field field : c.getDeclaredFields()) {
            if (isSeen(field)) {
                face.add(field.getName() + " " + field.getType().getSimpleName());
            }
        }
        return face;
    }

    private static boolean isSeen(Member member) {
        return !Modifier.isPrivate(member.getModifiers()) && !member.isSynthetic();
    }

    private static String list(Class<?>[] types, String between, String before, String behind) {
        StringBuilder names = new StringBuilder();
        for (Class<?> type : types) {
            names.append(names.length() == 0 ? "" : between).append(type.getSimpleName());
        }
        return names.length() == 0 && behind.isEmpty() ? "" : before + names + behind;
    }
}
