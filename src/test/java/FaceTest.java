import java.lang.reflect.Constructor;
import java.lang.reflect.Field;
import java.lang.reflect.Method;
import java.lang.reflect.Modifier;
import java.util.Arrays;
import java.util.Set;
import java.util.TreeSet;

/** The class shows the document's members and no others. */
public final class FaceTest {
    private static final String[] FACE = {
        "int come(boolean,int) throws IllegalArgumentException IllegalStateException",
        "int leave(int) throws IndexOutOfBoundsException IllegalStateException",
        "int ring(int) throws IllegalArgumentException",
        "int poise(int) throws IllegalArgumentException IllegalStateException",
        "int setCold(int,int) throws IndexOutOfBoundsException IllegalArgumentException",
        "int crack()",
        "int traveller(int,int) throws IndexOutOfBoundsException",
        "int count(int) throws IndexOutOfBoundsException",
        "int speed(boolean)",
        "int pass(int) throws IllegalArgumentException",
        "int when(int) throws IndexOutOfBoundsException",
        "int foresee(int,int) throws IllegalArgumentException IndexOutOfBoundsException",
        "int bestCode(int) throws IllegalArgumentException",
        "int bestPoise(int) throws IllegalArgumentException",
        "double mean()",
        "long digest()",
    };

    public static void main(String[] args) {
        Set<String> due = new TreeSet<>(Arrays.asList(FACE));
        Set<String> shown = new TreeSet<>();
        for (Method method : BridgeBells.class.getDeclaredMethods()) {
            if (!Modifier.isPrivate(method.getModifiers())) {
                Check.same(method + " is public and nothing else", method.getModifiers(), Modifier.PUBLIC);
                shown.add(textOf(method));
            }
        }
        Check.same("the face " + shown, shown.equals(due) ? 1 : 0, 1);
        for (Field field : BridgeBells.class.getDeclaredFields()) {
            Check.same(field + " is private", Modifier.isPrivate(field.getModifiers()) ? 1 : 0, 1);
        }
        Constructor<?>[] constructors = BridgeBells.class.getDeclaredConstructors();
        Check.same("constructors", constructors.length, 1);
        Check.same("the constructor's parameters", constructors[0].getParameterCount(), 0);
        Check.same("the constructor is public", constructors[0].getModifiers(), Modifier.PUBLIC);
        Check.same("the class", BridgeBells.class.getModifiers(), Modifier.PUBLIC | Modifier.FINAL);
        Check.end();
    }

    private static String textOf(Method method) {
        StringBuilder text = new StringBuilder();
        text.append(method.getReturnType().getSimpleName()).append(' ').append(method.getName()).append('(');
        for (int i = 0; i < method.getParameterCount(); i++) {
            text.append(i == 0 ? "" : ",").append(method.getParameterTypes()[i].getSimpleName());
        }
        text.append(')');
        for (int i = 0; i < method.getExceptionTypes().length; i++) {
            text.append(i == 0 ? " throws " : " ").append(method.getExceptionTypes()[i].getSimpleName());
        }
        return text.toString();
    }
}
