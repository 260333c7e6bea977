import java.lang.reflect.Constructor;
import java.lang.reflect.Field;
import java.lang.reflect.Method;
import java.lang.reflect.Modifier;
import java.util.Arrays;
import java.util.Set;
import java.util.TreeSet;

/** The class has the document's face and, by rule 1 of LANGUAGE.md, nothing else that others can see. */
public final class FaceTest {
    private static final String[] FACE = {
        "int tick(int) IllegalArgumentException",
        "int deliver(int) NoSuchElementException",
        "int drop(int) NoSuchElementException",
        "int copy(int) NoSuchElementException IllegalStateException",
        "int message(int,int) NoSuchElementException IllegalArgumentException",
        "void fall(int) NoSuchElementException IllegalStateException",
        "void rise(int) NoSuchElementException IllegalStateException",
        "int key(int) IllegalArgumentException",
        "int ask(int,int,int,int,int,int) NoSuchElementException IllegalArgumentException IllegalStateException",
        "long answer(int,int,int) NoSuchElementException IllegalArgumentException",
        "long number(int,int) NoSuchElementException",
        "int known(int,int,int) NoSuchElementException IllegalArgumentException",
        "int about(int,int) NoSuchElementException IllegalArgumentException",
        "int count(int)",
    };

    private FaceTest() { }

    public static void main(String[] args) {
        Class<?> face = QuorumStore.class;
        Set<String> names = new TreeSet<>();
        Set<String> found = new TreeSet<>();
        for (Method method : face.getDeclaredMethods()) {
            if (Modifier.isPublic(method.getModifiers())) {
                names.add(method.getName());
                found.add(describe(method));
            } else {
                isTrue(method + " is private", Modifier.isPrivate(method.getModifiers()));
            }
        }
        Check.same("the face", found.toString(), new TreeSet<>(Arrays.asList(FACE)).toString());
        isTrue("public and final", face.getModifiers() == (Modifier.PUBLIC | Modifier.FINAL));
        Constructor<?>[] made = face.getDeclaredConstructors();
        isTrue("one constructor of one int", made.length == 1 && Modifier.isPublic(made[0].getModifiers())
            && Arrays.equals(made[0].getParameterTypes(), new Class<?>[] {int.class}));
        fieldsAreHidden(face);
        for (Class<?> inside : face.getDeclaredClasses()) {
            isTrue(inside + " is static and not public", Modifier.isStatic(inside.getModifiers())
                && !Modifier.isPublic(inside.getModifiers()) && !Modifier.isProtected(inside.getModifiers()));
            staticFieldsAreFinal(inside);
            for (Method method : inside.getDeclaredMethods()) {
                isTrue(method + " has a name of its own", !names.contains(method.getName()));
            }
        }
        for (Method method : face.getDeclaredMethods()) {
            isTrue(method + " has a name of its own",
                Modifier.isPublic(method.getModifiers()) || !names.contains(method.getName()));
        }
        Check.finish();
    }

    private static void fieldsAreHidden(Class<?> face) {
        for (Field field : face.getDeclaredFields()) {
            isTrue(field + " is private", Modifier.isPrivate(field.getModifiers()));
        }
        staticFieldsAreFinal(face);
    }

    private static void staticFieldsAreFinal(Class<?> type) {
        for (Field field : type.getDeclaredFields()) {
            isTrue(field + " is final if it is static",
                !Modifier.isStatic(field.getModifiers()) || Modifier.isFinal(field.getModifiers()));
        }
    }

    private static String describe(Method method) {
        StringBuilder text = new StringBuilder(method.getReturnType().getName());
        text.append(' ').append(method.getName()).append('(');
        for (int i = 0; i < method.getParameterCount(); i++) {
            text.append(i == 0 ? "" : ",").append(method.getParameterTypes()[i].getName());
        }
        text.append(')');
        for (Class<?> thrown : method.getExceptionTypes()) {
            text.append(' ').append(thrown.getSimpleName());
        }
        return text.toString();
    }

    private static void isTrue(String what, boolean is) {
        Check.same(what, is ? "yes" : "no", "yes");
    }
}
