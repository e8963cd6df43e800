import java.lang.reflect.Constructor;
import java.lang.reflect.Field;
import java.lang.reflect.Method;
import java.lang.reflect.Modifier;
import java.util.Set;
import java.util.TreeSet;

/** The public face: just the document's members, none more that others could see. */
public final class FaceTest {
    private static final String[] FACE = {
        "int piece(int,int,int,int) IllegalArgumentException UnsupportedOperationException",
        "int order(int,int,int,int) IllegalArgumentException UnsupportedOperationException",
        "void worth(int,int,int) IndexOutOfBoundsException IllegalArgumentException UnsupportedOperationException",
        "void rules(int,int,int) IllegalArgumentException",
        "boolean fits(int,int) IndexOutOfBoundsException",
        "int net(int,int) IndexOutOfBoundsException UnsupportedOperationException",
        "int run()",
        "int sum()",
        "int dual(int,int) IndexOutOfBoundsException IllegalStateException",
        "int several(int) IndexOutOfBoundsException IllegalStateException",
        "int orderOf(int,int) IndexOutOfBoundsException",
        "void reserve(int,int,int) IndexOutOfBoundsException IllegalStateException IllegalArgumentException"
            + " UnsupportedOperationException",
        "int reserved(int) IndexOutOfBoundsException",
        "void undo(int) IndexOutOfBoundsException IllegalStateException",
        "int sale(int) IndexOutOfBoundsException",
        "int tick(int) IllegalArgumentException",
    };

    public static void main(String[] args) {
        Set<String> due = new TreeSet<>(Set.of(FACE));
        Set<String> publicNames = new TreeSet<>();
        for (Method method : SurplusMatch.class.getDeclaredMethods()) {
            if (Modifier.isPublic(method.getModifiers())) {
                Check.is("of the face: " + told(method), due.remove(told(method)), true);
                publicNames.add(method.getName());
            }
        }
        Check.is("missing from the face: " + due, due.size(), 0);
        for (Method method : SurplusMatch.class.getDeclaredMethods()) {
            if (!Modifier.isPublic(method.getModifiers())) {
                Check.is("private: " + method, Modifier.isPrivate(method.getModifiers()), true);
                Check.is("name of its own: " + method, publicNames.contains(method.getName()), false);
            }
        }
        for (Field field : SurplusMatch.class.getDeclaredFields()) {
            Check.is("private: " + field, Modifier.isPrivate(field.getModifiers()), true);
            if (Modifier.isStatic(field.getModifiers())) {
                Check.is("final: " + field, Modifier.isFinal(field.getModifiers()), true);
            }
        }
        Constructor<?>[] constructors = SurplusMatch.class.getDeclaredConstructors();
        Check.is("constructors", constructors.length, 1);
        Check.is("public constructor", Modifier.isPublic(constructors[0].getModifiers()), true);
        Check.is("its parameters", constructors[0].getParameterCount(), 0);
        Check.is("public class", Modifier.isPublic(SurplusMatch.class.getModifiers()), true);
        Check.is("final class", Modifier.isFinal(SurplusMatch.class.getModifiers()), true);
        Check.end();
    }

    private static String told(Method method) {
        StringBuilder text = new StringBuilder();
        text.append(method.getReturnType().getSimpleName()).append(' ').append(method.getName()).append('(');
        for (Class<?> type : method.getParameterTypes()) {
            text.append(text.charAt(text.length() - 1) == '(' ? "" : ",").append(type.getSimpleName());
        }
        text.append(')');
        for (Class<?> type : method.getExceptionTypes()) {
            text.append(' ').append(type.getSimpleName());
        }
        return text.toString();
    }
}
