import java.lang.reflect.Constructor;
import java.lang.reflect.Field;
import java.lang.reflect.Member;
import java.lang.reflect.Method;
import java.lang.reflect.Modifier;
import java.util.Arrays;
import java.util.TreeSet;

/** The public face: the class, its constants, and every method with its exceptions in the document's order. */
public final class FaceTest {
    private static final String BOUNDS = " throws IndexOutOfBoundsException";
    private static final String ARGUMENT = " throws IllegalArgumentException";
    private static final String BOTH = BOUNDS + " IllegalArgumentException";
    private static final String ALL_THREE = BOTH + " IllegalStateException";

    private static final String[] FACE = {
        "int paint(int int int)" + BOTH,
        "int paintBlock(int int int int int)" + BOTH,
        "int countryAt(int int)" + BOUNDS,
        "int countries()",
        "int area(int)" + BOUNDS,
        "int pieces(int)" + BOUNDS,
        "int largestPiece(int)" + BOUNDS,
        "int scattered()",
        "int neighbours(int)" + BOUNDS,
        "int border(int int)" + BOUNDS,
        "int enclosed(int)" + BOUNDS,
        "int allNeighbours()",
        "int tint(int int)" + BOTH,
        "int tintOf(int)" + BOUNDS,
        "int conflicts()",
        "boolean isTinted()",
        "int leastFree(int)" + BOUNDS,
        "int chain(int int)" + ALL_THREE,
        "int exchange(int int)" + ALL_THREE,
        "int tintInOrder(boolean)",
        "int fewestTints()",
        "int tintWithFewest()",
        "long tintings(int)" + ARGUMENT,
        "long tintingsByPairs(int)" + ARGUMENT,
    };

    public static void main(String[] args) {
        Check check = new Check("FaceTest");
        check.due("NONE", FourTints.NONE, -1);
        check.due("SEA", FourTints.SEA, -1);

        int modifiers = FourTints.class.getModifiers();
        check.due("the class is public", Modifier.isPublic(modifiers), true);
        check.due("the class is final", Modifier.isFinal(modifiers), true);

        TreeSet<String> wanted = new TreeSet<>(Arrays.asList(FACE));
        TreeSet<String> open = new TreeSet<>();
        TreeSet<String> publicNames = new TreeSet<>();
        TreeSet<String> privateNames = new TreeSet<>();
        for (Method method : FourTints.class.getDeclaredMethods()) {
            if (isHidden(method)) {
                privateNames.add(method.getName());
            } else {
                open.add(described(method));
                publicNames.add(method.getName());
            }
        }
        check.due("the methods", open.toString(), wanted.toString());
        privateNames.retainAll(publicNames);
        check.due("names of public methods that private ones bear", privateNames.toString(), "[]");

        TreeSet<String> constants = new TreeSet<>();
        for (Field field : FourTints.class.getDeclaredFields()) {
            if (!isHidden(field)) {
                constants.add(Modifier.toString(field.getModifiers()) + " " + field.getType() + " " + field.getName());
            }
        }
        check.due("the constants", constants.toString(), "[public static final int NONE, public static final int SEA]");

        Constructor<?>[] constructors = FourTints.class.getDeclaredConstructors();
        check.due("the number of constructors", constructors.length, 1);
        check.due("the constructor", constructors[0].toString(), "public FourTints()");
        check.end();
    }

    private static boolean isHidden(Member member) {
        return Modifier.isPrivate(member.getModifiers()) || member.isSynthetic();
    }

    private static String described(Method method) {
        StringBuilder text = new StringBuilder();
        text.append(method.getReturnType().getSimpleName()).append(' ').append(method.getName()).append('(');
        String gap = "";
        for (Class<?> type : method.getParameterTypes()) {
            text.append(gap).append(type.getSimpleName());
            gap = " ";
        }
        text.append(')');
        gap = " throws ";
        for (Class<?> type : method.getExceptionTypes()) {
            text.append(gap).append(type.getSimpleName());
            gap = " ";
        }
        return text.toString();
    }
}
