import java.lang.reflect.Constructor;
import java.lang.reflect.Field;
import java.lang.reflect.Method;
import java.lang.reflect.Modifier;
import java.util.ArrayList;
import java.util.Arrays;
import java.util.Collections;
import java.util.List;

/** The public face is that of the document, and nothing else can be seen of the class. */
public final class FaceTest {
    private static final String[] FACE = {
        "int wall(int, int, int, int) IllegalArgumentException IllegalStateException",
        "int hand(int, int, int, int) IllegalArgumentException IllegalStateException",
        "int permit(int, int, int) IndexOutOfBoundsException IllegalArgumentException",
        "int watch(int, int, int) IndexOutOfBoundsException IllegalArgumentException",
        "int paint(int, int, int, int, int, int) IndexOutOfBoundsException IllegalArgumentException"
            + " IllegalStateException",
        "int buff(int) IndexOutOfBoundsException IllegalStateException",
        "int clear(int) IndexOutOfBoundsException",
        "int sell(int) IndexOutOfBoundsException IllegalStateException",
        "boolean waive(int) IndexOutOfBoundsException",
        "boolean remember(int) IndexOutOfBoundsException",
        "int pay(int) IndexOutOfBoundsException",
        "int pass(int) IllegalArgumentException IllegalStateException",
        "int ofWall(int, int) IndexOutOfBoundsException IllegalArgumentException",
        "int shows(int, int) IndexOutOfBoundsException",
        "int ofHand(int, int) IndexOutOfBoundsException IllegalArgumentException",
        "int ofLayer(int, int) IndexOutOfBoundsException IllegalArgumentException",
        "int wrongs(int, int) IndexOutOfBoundsException",
        "int likeness(int, int) IndexOutOfBoundsException",
        "int many(int) IllegalArgumentException",
        "double meanFame()",
        "int bestFrom(int, int, int, int) IndexOutOfBoundsException IllegalArgumentException",
        "int wouldWrong(int, int, int, int, int) IndexOutOfBoundsException IllegalArgumentException",
        "int nextBuff()",
        "int wouldFame(int, int) IndexOutOfBoundsException IllegalArgumentException",
        "long digest()",
    };

    public static void main(String[] args) {
        Checks checks = new Checks("FaceTest");
        checks.isTrue("the class is public and final",
            Modifier.isPublic(Wallcode.class.getModifiers())
                && Modifier.isFinal(Wallcode.class.getModifiers()));
        methodsAreThoseOfTheDocument(checks);
        nothingElseIsSeen(checks);
        checks.end();
    }

    private static void methodsAreThoseOfTheDocument(Checks checks) {
        List<String> due = new ArrayList<>(Arrays.asList(FACE));
        List<String> got = new ArrayList<>();
        List<String> publicNames = new ArrayList<>();
        for (Method method : Wallcode.class.getDeclaredMethods()) {
            if (!Modifier.isPrivate(method.getModifiers()) && !method.isSynthetic()) {
                got.add(told(method));
                publicNames.add(method.getName());
            }
        }
        Collections.sort(due);
        Collections.sort(got);
        if (!due.equals(got)) {
            checks.fail("the methods are " + got + ", due are " + due);
        }
        for (Method method : Wallcode.class.getDeclaredMethods()) {
            boolean isPrivate = Modifier.isPrivate(method.getModifiers());
            checks.isTrue("no private method is named " + method.getName(),
                !isPrivate || !publicNames.contains(method.getName()));
        }
    }

    private static String told(Method method) {
        StringBuilder text = new StringBuilder();
        text.append(method.getReturnType().getSimpleName()).append(' ').append(method.getName());
        text.append('(');
        String gap = "";
        for (Class<?> type : method.getParameterTypes()) {
            text.append(gap).append(type.getSimpleName());
            gap = ", ";
        }
        text.append(')');
        for (Class<?> type : method.getExceptionTypes()) {
            text.append(' ').append(type.getSimpleName());
        }
        return text.toString();
    }

    private static void nothingElseIsSeen(Checks checks) {
        for (Field field : Wallcode.class.getDeclaredFields()) {
            checks.isTrue("the field " + field.getName() + " is private",
                Modifier.isPrivate(field.getModifiers()));
        }
        Constructor<?>[] constructors = Wallcode.class.getDeclaredConstructors();
        checks.is("constructors", 1, constructors.length);
        checks.isTrue("the constructor is public", Modifier.isPublic(constructors[0].getModifiers()));
        checks.is("its parameters", 0, constructors[0].getParameterCount());
    }
}
