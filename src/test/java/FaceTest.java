import java.lang.reflect.Constructor;
import java.lang.reflect.Field;
import java.lang.reflect.Method;
import java.lang.reflect.Modifier;
import java.util.Set;
import java.util.TreeSet;

/** The class shows the document's face and nothing else. */
public final class FaceTest {
    private static final String[] FACE = {
        "int draft(int,int) throws IllegalArgumentException IllegalStateException",
        "int lay() throws IllegalStateException",
        "int move(int,int,int,int) throws IndexOutOfBoundsException IllegalArgumentException IllegalStateException",
        "int cables() throws",
        "int point(int,int) throws IndexOutOfBoundsException",
        "int crossings(int,int) throws IndexOutOfBoundsException",
        "int crossingsAnew(int,int) throws IndexOutOfBoundsException",
        "boolean isWell(int,int) throws IndexOutOfBoundsException",
        "int agree(int,int) throws IndexOutOfBoundsException IllegalStateException",
        "boolean isAgreed(int,int) throws IndexOutOfBoundsException",
        "int bare() throws",
        "int ground(int,int,int,int,int,int) throws IllegalArgumentException IllegalStateException",
        "int tell(int,int) throws IndexOutOfBoundsException IllegalArgumentException IllegalStateException",
        "boolean isClosed(int,int) throws IndexOutOfBoundsException IllegalArgumentException",
        "boolean touches(int,int,int) throws IndexOutOfBoundsException",
        "int lifted(int,int) throws IndexOutOfBoundsException",
        "int cost(int,int,int) throws IndexOutOfBoundsException IllegalArgumentException",
        "int repair(int,int,int) throws IndexOutOfBoundsException IllegalArgumentException IllegalStateException",
        "int paid(int) throws IndexOutOfBoundsException",
    };

    public static void main(String[] args) {
        Check.same("the class's modifiers", CableOffice.class.getModifiers(), Modifier.PUBLIC | Modifier.FINAL);
        Check.same("the class's methods", shownMethods(), new TreeSet<>(Set.of(FACE)));
        Check.same("the class's fields", shownFields(), Set.of("public static final int CableOffice.NONE"));
        Check.same("NONE", CableOffice.NONE, -1);
        Check.same("how many constructors", CableOffice.class.getDeclaredConstructors().length, 1);
        for (Constructor<?> made : CableOffice.class.getDeclaredConstructors()) {
            Check.same("the constructor", made.toString(), "public CableOffice()");
        }
        Check.end("FaceTest");
    }

    private static boolean isShown(int modifiers) {
        return !Modifier.isPrivate(modifiers);
    }

    private static Set<String> shownMethods() {
        Set<String> shown = new TreeSet<>();
        for (Method method : CableOffice.class.getDeclaredMethods()) {
            if (isShown(method.getModifiers())) {
                shown.add(textOf(method));
            }
        }
        return shown;
    }

    private static Set<String> shownFields() {
        Set<String> shown = new TreeSet<>();
        for (Field field : CableOffice.class.getDeclaredFields()) {
            if (isShown(field.getModifiers())) {
                shown.add(field.toString());
            }
        }
        return shown;
    }

    private static String textOf(Method method) {
        StringBuilder text = new StringBuilder();
        text.append(Modifier.isStatic(method.getModifiers()) ? "static " : "");
        text.append(method.getReturnType()).append(' ').append(method.getName()).append('(');
        String comma = "";
        for (Class<?> type : method.getParameterTypes()) {
            text.append(comma).append(type);
            comma = ",";
        }
        text.append(") throws");
        for (Class<?> type : method.getExceptionTypes()) {
            text.append(' ').append(type.getSimpleName());
        }
        return text.toString();
    }
}
