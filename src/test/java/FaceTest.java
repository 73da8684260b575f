import java.lang.reflect.Constructor;
import java.lang.reflect.Field;
import java.lang.reflect.Member;
import java.lang.reflect.Method;
import java.lang.reflect.Modifier;
import java.util.ArrayList;
import java.util.Arrays;
import java.util.HashSet;
import java.util.List;
import java.util.Set;
import java.util.TreeSet;

/** The public face is the document's, and nothing else of the class can be seen (rule 1). */
final class FaceTest {
    private static final String I = "IllegalArgumentException";
    private static final String S = "IllegalStateException";
    private static final String X = "IndexOutOfBoundsException";

    private FaceTest() {
    }

    public static void main(String[] args) {
        Script.due("the class", Modifier.PUBLIC | Modifier.FINAL, PartyLines.class.getModifiers());
        constructors();
        methods();
        fields();
        hiddenMembers();
        Script.end();
    }

    private static Set<String> documentedMethods() {
        return new TreeSet<>(List.of(
                "int addLoop() " + S,
                "int addSubscriber(int, int, int) " + X + " " + I + " " + S,
                "int set(int, int, int) " + X + " " + I + " " + S,
                "int loops()",
                "int subscribers()",
                "int subscriber(int, int) " + X + " " + I,
                "int loop(int, int) " + X + " " + I,
                "int lift(int) " + X + " " + S,
                "int hang(int) " + X + " " + S,
                "int dial(int, int) " + X + " " + S,
                "int tick(int) " + I,
                "int setLimit(int) " + I,
                "int rings(int) " + X,
                "int wouldDial(int, int) " + X,
                "int told(int) " + I,
                "int codeLength(int) " + I,
                "int codeRing(int, int) " + I,
                "int codeCost(int) " + X,
                "int bestCodes(int) " + X,
                "int assignCodes(int) " + X + " " + S,
                "int fault(int, int, boolean) " + X + " " + S,
                "int mend(int) " + X + " " + S,
                "boolean isCut(int) " + X,
                "int setRisk(int, int, int) " + X + " " + I,
                "boolean test(int, int) " + X + " " + I + " " + S,
                "int testCost(int, int, int) " + X + " " + I,
                "int bestTest(int, int, int) " + X + " " + I,
                "int testsNeeded(int) " + X + " " + S,
                "int undo() " + S,
                "long digest()"));
    }

    private static void constructors() {
        Constructor<?>[] all = PartyLines.class.getDeclaredConstructors();
        Script.due("constructors", 1, all.length);
        Script.due("the constructor", "public PartyLines()", all[0].toString());
    }

    private static void methods() {
        Set<String> visible = new TreeSet<>();
        for (Method method : PartyLines.class.getDeclaredMethods()) {
            if (!isHidden(method)) {
                Script.due(method + " is public", Modifier.PUBLIC, method.getModifiers());
                visible.add(describe(method));
            }
        }
        Script.due("the methods", documentedMethods(), visible);
    }

    private static boolean isHidden(Member member) {
        return Modifier.isPrivate(member.getModifiers()) || member.isSynthetic();
    }

    private static String describe(Method method) {
        String text = method.getReturnType() + " " + method.getName() + "("
                + names(method.getParameterTypes(), ", ") + ")";
        String thrown = names(method.getExceptionTypes(), " ");
        return thrown.isEmpty() ? text : text + " " + thrown;
    }

    private static String names(Class<?>[] types, String between) {
        List<String> names = new ArrayList<>();
        Arrays.stream(types).forEach(type -> names.add(type.getSimpleName()));
        return String.join(between, names);
    }

    private static void fields() {
        for (Field field : PartyLines.class.getDeclaredFields()) {
            if (!isHidden(field)) {
                Script.due("the constant", "public static final int PartyLines.NONE",
                        field.toString());
            }
            if (Modifier.isStatic(field.getModifiers())) {
                Script.due(field + " is final", true, Modifier.isFinal(field.getModifiers()));
            }
        }
    }

    private static void hiddenMembers() {
        Set<String> face = new HashSet<>();
        for (Method method : PartyLines.class.getMethods()) {
            face.add(method.getName());
        }
        for (Method method : PartyLines.class.getDeclaredMethods()) {
            Script.due(method + " bears a name of the face", false,
                    isHidden(method) && face.contains(method.getName()));
        }
        for (Class<?> nested : PartyLines.class.getDeclaredClasses()) {
            int modifiers = nested.getModifiers();
            Script.due(nested + " is static", true, Modifier.isStatic(modifiers));
            Script.due(nested + " is hidden", false,
                    Modifier.isPublic(modifiers) || Modifier.isProtected(modifiers));
            for (Method method : nested.getDeclaredMethods()) {
                Script.due(method + " bears a name of the face", false,
                        face.contains(method.getName()));
            }
        }
    }
}
