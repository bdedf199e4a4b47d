import java.lang.reflect.Constructor;
import java.lang.reflect.Field;
import java.lang.reflect.Method;
import java.lang.reflect.Modifier;
import java.util.Arrays;
import java.util.TreeSet;
import java.util.stream.Collectors;

/** The class has the face that the document writes down, with its exceptions, and shows nothing else. */
public final class FaceTest {
    private static final String[] FACE = {
        "void sort() UnsupportedOperationException",
        "void constant(int) IndexOutOfBoundsException UnsupportedOperationException",
        "void variable(int) IndexOutOfBoundsException UnsupportedOperationException",
        "void apply() IllegalStateException IllegalArgumentException ArithmeticException",
        "void assume() IllegalStateException UnsupportedOperationException IllegalArgumentException",
        "void lambda() IllegalStateException IllegalArgumentException ArithmeticException",
        "void product() IllegalStateException IllegalArgumentException ArithmeticException",
        "int declare(boolean) IllegalStateException UnsupportedOperationException IllegalArgumentException",
        "int rule() IllegalStateException UnsupportedOperationException IllegalArgumentException ArithmeticException",
        "int normal() IllegalStateException ArithmeticException",
        "boolean same() IllegalStateException ArithmeticException",
        "boolean drop()",
        "boolean leave()",
        "int counts()",
        "int judgement(int,boolean,int)",
        "int made(int)",
        "int entry(int,int)",
        "int type(int,int)",
        "int side(int,boolean,int)",
    };

    public static void main(String[] args) {
        TreeSet<String> shown = new TreeSet<>();
        TreeSet<String> hidden = new TreeSet<>();
        for (Method method : TypeKernel.class.getDeclaredMethods()) {
            boolean isPrivate = Modifier.isPrivate(method.getModifiers());
            (isPrivate ? hidden : shown).add(isPrivate ? method.getName() : line(method));
        }
        boolean well = say("the methods", shown.equals(new TreeSet<>(Arrays.asList(FACE))));
        for (String line : FACE) {
            String name = line.substring(line.indexOf(' ') + 1, line.indexOf('('));
            well &= say("no private method " + name, !hidden.contains(name));
        }
        for (Field field : TypeKernel.class.getDeclaredFields()) {
            well &= say("the field " + field.getName(), Modifier.isPrivate(field.getModifiers()));
        }
        Constructor<?>[] constructors = TypeKernel.class.getDeclaredConstructors();
        well &= say("the constructor", constructors.length == 1 && constructors[0].getParameterCount() == 0
                && Modifier.isPublic(constructors[0].getModifiers()));
        int modifiers = TypeKernel.class.getModifiers();
        well &= say("the class", Modifier.isPublic(modifiers) && Modifier.isFinal(modifiers));
        if (!well) {
            System.exit(1);
        }
        System.out.println("FaceTest: the face is as due");
    }

    private static String line(Method method) {
        String parameters = Arrays.stream(method.getParameterTypes())
                .map(Class::getSimpleName).collect(Collectors.joining(","));
        String exceptions = Arrays.stream(method.getExceptionTypes())
                .map(type -> " " + type.getSimpleName()).collect(Collectors.joining());
        String visible = Modifier.isPublic(method.getModifiers()) ? "" : "not public ";
        return visible + method.getReturnType().getSimpleName() + " " + method.getName() + "(" + parameters + ")"
                + exceptions;
    }

    private static boolean say(String what, boolean asDue) {
        if (!asDue) {
            System.out.println("FaceTest: " + what + " is not as due");
        }
        return asDue;
    }
}
