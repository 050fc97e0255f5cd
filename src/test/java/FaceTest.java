import java.lang.reflect.Constructor;
import java.lang.reflect.Field;
import java.lang.reflect.Method;
import java.lang.reflect.Modifier;
import java.util.Set;
import java.util.TreeSet;

/** The public face is the document's and no more; the rules of LANGUAGE.md that reflection can see. */
public final class FaceTest {
    private static final Set<String> DUE = new TreeSet<>(Set.of(
            "int add(int,int,int,int,int) IllegalArgumentException IllegalStateException",
            "boolean remove(int) NoSuchElementException IllegalStateException",
            "int release(int,int) NoSuchElementException IllegalArgumentException IllegalStateException",
            "int tick()",
            "int run(int) IllegalArgumentException",
            "boolean assign()",
            "int response(int,int) NoSuchElementException IllegalArgumentException",
            "int ended(int,int) NoSuchElementException",
            "int about(int,int) NoSuchElementException IllegalArgumentException",
            "int witness(int,int) NoSuchElementException IllegalArgumentException",
            "int trace(int) NoSuchElementException",
            "int changed(int) NoSuchElementException",
            "int count(int) IllegalArgumentException"));

    public static void main(String[] args) {
        Class<?> face = MixedKernel.class;
        Check.same("public and final", face.getModifiers() & (Modifier.PUBLIC | Modifier.FINAL),
                Modifier.PUBLIC | Modifier.FINAL);
        methods(face);
        constructors(face);
        fields(face);
        for (Class<?> inside : face.getDeclaredClasses()) {
            Check.same(inside + " is static", Modifier.isStatic(inside.getModifiers()) ? 1 : 0, 1);
            staticFieldsAreFinal(inside);
        }
        Check.end();
    }

    private static void methods(Class<?> face) {
        Set<String> seen = new TreeSet<>();
        Set<String> publicNames = new TreeSet<>();
        for (Method method : face.getDeclaredMethods()) {
            if (!Modifier.isPrivate(method.getModifiers())) {
                seen.add(signature(method));
                publicNames.add(method.getName());
            }
        }
        Check.same("the methods", seen.toString(), DUE.toString());
        for (Method method : face.getDeclaredMethods()) {
            if (Modifier.isPrivate(method.getModifiers())) {
                Check.same("private " + method.getName() + " bears a public name",
                        publicNames.contains(method.getName()) ? 1 : 0, 0);
            }
        }
    }

    private static String signature(Method method) {
        StringBuilder text = new StringBuilder();
        text.append(method.getReturnType()).append(' ').append(method.getName()).append('(');
        String comma = "";
        for (Class<?> parameter : method.getParameterTypes()) {
            text.append(comma).append(parameter);
            comma = ",";
        }
        text.append(')');
        for (Class<?> thrown : method.getExceptionTypes()) {
            text.append(' ').append(thrown.getSimpleName());
        }
        return text.toString();
    }

    private static void constructors(Class<?> face) {
        Constructor<?>[] all = face.getDeclaredConstructors();
        Check.same("constructors", all.length, 1);
        Check.same("its parameters", all[0].getParameterCount(), 0);
        Check.same("it is public", Modifier.isPublic(all[0].getModifiers()) ? 1 : 0, 1);
    }

    private static void fields(Class<?> face) {
        Set<String> seen = new TreeSet<>();
        for (Field field : face.getDeclaredFields()) {
            if (!Modifier.isPrivate(field.getModifiers())) {
                seen.add(field.getName());
            }
        }
        Check.same("the constants", seen.toString(), "[GIVEN_UP, NONE]");
        Check.same("NONE", MixedKernel.NONE, -1);
        Check.same("GIVEN_UP", MixedKernel.GIVEN_UP, -2);
        staticFieldsAreFinal(face);
    }

    private static void staticFieldsAreFinal(Class<?> some) {
        for (Field field : some.getDeclaredFields()) {
            if (Modifier.isStatic(field.getModifiers())) {
                Check.same(field + " is final", Modifier.isFinal(field.getModifiers()) ? 1 : 0, 1);
            }
        }
    }
}
