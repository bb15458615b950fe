import java.io.IOException;
import java.io.UncheckedIOException;
import java.lang.reflect.Constructor;
import java.lang.reflect.Field;
import java.lang.reflect.Method;
import java.lang.reflect.Modifier;
import java.nio.file.Files;
import java.nio.file.Path;
import java.util.ArrayList;
import java.util.Arrays;
import java.util.List;
import java.util.Set;
import java.util.TreeSet;
import java.util.regex.Matcher;
import java.util.regex.Pattern;

/** The class shows the document's members and no others, under its headings. Run from the project's directory. */
public final class FaceTest {
    private static final String[] FACE = {
        "int come(boolean,int) throws IllegalArgumentException IllegalStateException",
        "int leave(int) throws IndexOutOfBoundsException IllegalStateException",
        "int ring(int) throws IllegalArgumentException",
        "int poise(int) throws IllegalArgumentException IllegalStateException",
        "int setCold(int,int) throws IndexOutOfBoundsException IllegalArgumentException",
        "int crack()",
        "int traveller(int,int) throws IndexOutOfBoundsException",
        "int count(int) throws IndexOutOfBoundsException",
        "int speed(boolean)",
        "int pass(int) throws IllegalArgumentException",
        "int when(int) throws IndexOutOfBoundsException",
        "int foresee(int,int) throws IllegalArgumentException IndexOutOfBoundsException",
        "int bestCode(int) throws IllegalArgumentException",
        "int bestPoise(int) throws IllegalArgumentException",
        "double mean()",
        "long digest()",
    };

    /** The document's headings, each with the calls that it stands ahead of. */
    private static final String[] HEADINGS_AND_CALLS = {
        "---- travellers and the bridge", "come", "leave", "ring", "poise", "setCold", "crack",
        "---- what is there", "traveller", "count", "speed",
        "---- minutes", "pass",
        "---- what would be", "when", "foresee", "bestCode", "bestPoise", "mean", "digest",
    };

    private static final Pattern HEADING_OR_CALL =
            Pattern.compile(" {4}(?:// (----.*)|public \\w+ (\\w+)\\(.*)");

    public static void main(String[] args) {
        theMembersAreThoseOfTheDocument();
        theConstructorAndTheClass();
        theHeadingsStandAheadOfTheirCalls();
        noPrivateMethodBearsAPublicName();
        theClassesInsideArePrivateAndStatic();
        whatIsStaticIsAConstant(BridgeBells.class);
        Check.end();
    }

    private static void theMembersAreThoseOfTheDocument() {
        Set<String> due = new TreeSet<>(Arrays.asList(FACE));
        Set<String> shown = new TreeSet<>();
        for (Method method : BridgeBells.class.getDeclaredMethods()) {
            if (!Modifier.isPrivate(method.getModifiers())) {
                Check.same(method + " is public and nothing else", method.getModifiers(), Modifier.PUBLIC);
                shown.add(textOf(method));
            }
        }
        Check.same("the face " + shown, shown.equals(due) ? 1 : 0, 1);
        for (Field field : BridgeBells.class.getDeclaredFields()) {
            Check.same(field + " is private", Modifier.isPrivate(field.getModifiers()) ? 1 : 0, 1);
        }
    }

    private static void theConstructorAndTheClass() {
        Constructor<?>[] constructors = BridgeBells.class.getDeclaredConstructors();
        Check.same("constructors", constructors.length, 1);
        Check.same("the constructor's parameters", constructors[0].getParameterCount(), 0);
        Check.same("the constructor's exceptions", constructors[0].getExceptionTypes().length, 0);
        Check.same("the constructor is public", constructors[0].getModifiers(), Modifier.PUBLIC);
        Check.same("the class", BridgeBells.class.getModifiers(), Modifier.PUBLIC | Modifier.FINAL);
        Check.same("the class has no package", BridgeBells.class.getPackageName().length(), 0);
    }

    private static void theHeadingsStandAheadOfTheirCalls() {
        List<String> found = new ArrayList<>();
        for (String line : linesOf(Path.of("src/main/java/BridgeBells.java"))) {
            Matcher matcher = HEADING_OR_CALL.matcher(line);
            if (matcher.matches()) {
                found.add(matcher.group(1) != null ? matcher.group(1) : matcher.group(2));
            }
        }
        Check.same("headings and calls " + found, found.equals(Arrays.asList(HEADINGS_AND_CALLS)) ? 1 : 0, 1);
    }

    private static void noPrivateMethodBearsAPublicName() {
        Set<String> names = new TreeSet<>();
        for (String call : FACE) {
            names.add(call.substring(call.indexOf(' ') + 1, call.indexOf('(')));
        }
        for (Method method : BridgeBells.class.getDeclaredMethods()) {
            if (Modifier.isPrivate(method.getModifiers())) {
                Check.same(method + " bears a public name", names.contains(method.getName()) ? 1 : 0, 0);
            }
        }
    }

    private static void theClassesInsideArePrivateAndStatic() {
        for (Class<?> inside : BridgeBells.class.getDeclaredClasses()) {
            Check.same(inside + " is private, static and final", inside.getModifiers(),
                    Modifier.PRIVATE | Modifier.STATIC | Modifier.FINAL);
            whatIsStaticIsAConstant(inside);
        }
    }

    private static void whatIsStaticIsAConstant(Class<?> owner) {
        for (Field field : owner.getDeclaredFields()) {
            if (Modifier.isStatic(field.getModifiers())) {
                Check.same(field + " is final", Modifier.isFinal(field.getModifiers()) ? 1 : 0, 1);
                Check.same(field + " is a number", field.getType() == int.class ? 1 : 0, 1);
            }
        }
    }

    private static String textOf(Method method) {
        StringBuilder text = new StringBuilder();
        text.append(method.getReturnType().getSimpleName()).append(' ').append(method.getName()).append('(');
        for (int i = 0; i < method.getParameterCount(); i++) {
            text.append(i == 0 ? "" : ",").append(method.getParameterTypes()[i].getSimpleName());
        }
        text.append(')');
        for (int i = 0; i < method.getExceptionTypes().length; i++) {
            text.append(i == 0 ? " throws " : " ").append(method.getExceptionTypes()[i].getSimpleName());
        }
        return text.toString();
    }

    private static List<String> linesOf(Path file) {
        try {
            return Files.readAllLines(file);
        } catch (IOException e) {
            throw new UncheckedIOException(e);
        }
    }
}
