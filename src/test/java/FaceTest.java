import java.lang.reflect.Constructor;
import java.lang.reflect.Field;
import java.lang.reflect.Method;
import java.lang.reflect.Modifier;
import java.util.ArrayList;
import java.util.Arrays;
import java.util.Collections;
import java.util.List;

/**
 * The public face is the document's, with its throws clauses, and nothing more; and what the rules
 * of ../shared/LANGUAGE.md say of members, so far as the compiled class shows it.
 */
public final class FaceTest {
    private static final String[] METHODS = {
        "int addBreak(int) throws IllegalArgumentException IllegalStateException",
        "int rate(int int int) throws IndexOutOfBoundsException IllegalArgumentException",
        "int air(int) throws IndexOutOfBoundsException IllegalStateException",
        "int breaks() throws",
        "boolean isAired(int) throws IndexOutOfBoundsException",
        "int room(int) throws IndexOutOfBoundsException",
        "int rating(int int) throws IndexOutOfBoundsException IllegalArgumentException",
        "int addOrder(int int int int int int int) throws IllegalArgumentException"
                + " IllegalStateException",
        "int close(int) throws IndexOutOfBoundsException IllegalStateException",
        "int orders() throws",
        "int whyNot(int int) throws IndexOutOfBoundsException",
        "int place(int int) throws IndexOutOfBoundsException IllegalStateException",
        "int give(int int) throws IndexOutOfBoundsException IllegalStateException",
        "int fill(int int) throws IndexOutOfBoundsException IllegalArgumentException"
                + " IllegalStateException",
        "int move(int int) throws IndexOutOfBoundsException IllegalStateException",
        "boolean miss(int) throws IndexOutOfBoundsException IllegalStateException",
        "void drop(int) throws IndexOutOfBoundsException IllegalStateException",
        "int spots() throws",
        "int stateOf(int) throws IndexOutOfBoundsException",
        "int breakOf(int) throws IndexOutOfBoundsException",
        "int delivered(int) throws IndexOutOfBoundsException",
        "int owed(int) throws IndexOutOfBoundsException",
        "int rest(int) throws IndexOutOfBoundsException",
        "int bill(int) throws IndexOutOfBoundsException",
        "int billTo(int) throws IllegalArgumentException",
        "int mostOwed() throws",
    };

    private static final String[] CONSTANTS = {
        "NONE = -1", "PLANNED = 0", "AIRED = 1", "MISSED = 2", "DROPPED = 3",
    };

    public static void main(String[] args) throws IllegalAccessException {
        Check check = new Check();
        check.begin("face");
        int modifiers = SpotAccount.class.getModifiers();
        check.due("public", Modifier.isPublic(modifiers), true);
        check.due("final", Modifier.isFinal(modifiers), true);
        check.due("constructors", constructors(), "[[]]");
        check.due("methods", methods(check), sorted(METHODS));
        check.due("constants", constants(check), sorted(CONSTANTS));
        privateMethods(check);
        fields(check);
        check.end();
    }

    private static void privateMethods(Check check) {
        check.begin("rules 1 and 11 [names and parameters of private methods]");
        List<String> face = new ArrayList<>();
        for (String method : METHODS) {
            face.add(method.substring(method.indexOf(' ') + 1, method.indexOf('(')));
        }
        for (Method method : SpotAccount.class.getDeclaredMethods()) {
            if (Modifier.isPrivate(method.getModifiers())) {
                String name = method.getName();
                check.due(name + " bears a public name", face.contains(name), false);
                check.due(name + " has 7 at most", method.getParameterCount() <= 7, true);
                check.due(name + " is written in the file", method.isSynthetic(), false);
            }
        }
    }

    private static void fields(Check check) {
        check.begin("rules 5 and 11 [static state, how many fields]");
        int own = 0;
        for (Field field : SpotAccount.class.getDeclaredFields()) {
            if (Modifier.isStatic(field.getModifiers())) {
                check.due(field + " is final", Modifier.isFinal(field.getModifiers()), true);
                check.due(field + " is a number", field.getType() == int.class, true);
            } else {
                own++;
            }
        }
        check.due("at most some twenty fields of an object", own <= 20, true);
    }

    private static String constructors() {
        List<String> found = new ArrayList<>();
        for (Constructor<?> constructor : SpotAccount.class.getDeclaredConstructors()) {
            if (!Modifier.isPrivate(constructor.getModifiers())) {
                found.add(Arrays.toString(constructor.getParameterTypes()));
            }
        }
        return found.toString();
    }

    private static String methods(Check check) {
        List<String> found = new ArrayList<>();
        for (Method method : SpotAccount.class.getDeclaredMethods()) {
            if (!Modifier.isPrivate(method.getModifiers())) {
                check.due(method.getName(), method.getModifiers(), Modifier.PUBLIC);
                found.add(head(method));
            }
        }
        return sorted(found.toArray(new String[0]));
    }

    private static String head(Method method) {
        return method.getReturnType().getSimpleName() + " " + method.getName()
                + "(" + names(method.getParameterTypes()) + ") throws"
                + (method.getExceptionTypes().length == 0 ? "" : " ")
                + names(method.getExceptionTypes());
    }

    private static String names(Class<?>[] types) {
        List<String> found = new ArrayList<>();
        for (Class<?> type : types) {
            found.add(type.getSimpleName());
        }
        return String.join(" ", found);
    }

    private static String constants(Check check) throws IllegalAccessException {
        List<String> found = new ArrayList<>();
        int constant = Modifier.PUBLIC | Modifier.STATIC | Modifier.FINAL;
        for (Field field : SpotAccount.class.getDeclaredFields()) {
            if (!Modifier.isPrivate(field.getModifiers())) {
                check.due(field.getName(), field.getModifiers(), constant);
                found.add(field.getName() + " = " + field.getInt(null));
            }
        }
        return sorted(found.toArray(new String[0]));
    }

    private static String sorted(String[] lines) {
        List<String> found = new ArrayList<>(Arrays.asList(lines));
        Collections.sort(found);
        return String.join("\n  ", found);
    }
}
