import java.lang.reflect.Constructor;
import java.lang.reflect.Field;
import java.lang.reflect.Method;
import java.lang.reflect.Modifier;
import java.util.ArrayList;
import java.util.Arrays;
import java.util.List;

/**
 * The public face, as the document writes it: constants, constructor, methods, and the exceptions
 * that each method names, in their order.
 */
public final class FaceTest {
    private static final Checks CHECKS = new Checks("FaceTest");
    private static final String[] CONSTANTS = {"NONE -1", "ABSENT -2000000", "NOT_YET -12", "NO_RIGHT -13", "SECRET -14"};
    /** Parameters: i int, b boolean. Exceptions: I index, A argument, S state, U no room. */
    private static final String[] METHODS = {"tick i A", "unit - U", "tell iiii IASU", "merge ii IS", "value iiii IA",
        "last i I", "feed iiiii U", "trim i A", "form - U", "statement iii IA", "open ii ISU", "question i I",
        "answer ii ISA", "back i IS", "given iib I", "close i IS", "item ii I", "mark ii I", "rule iiii IAU",
        "cost iii IA", "broken ii I", "least ib I", "impute ii IAS", "sample iiiiii IAU", "drawn ii I", "chance iib I",
        "overlap ii I", "table iiiii IAU", "cell iiii IA", "secrecy iiii IA", "secret iii I", "interval iiib I",
        "round ii IA", "person i AU", "release iii ISAU", "look iiii IU", "looked ii IA", "told i A"};

    public static void main(String[] args) throws IllegalAccessException {
        theClass();
        constants();
        methods();
        CHECKS.end();
    }

    private static void theClass() {
        int modifiers = CensusOffice.class.getModifiers();
        CHECKS.due("public and final", Modifier.PUBLIC | Modifier.FINAL, () -> modifiers);
        Constructor<?>[] made = CensusOffice.class.getDeclaredConstructors();
        CHECKS.due("1 one constructor", 1, () -> made.length);
        CHECKS.due("1 public, without parameters", Modifier.PUBLIC,
                () -> made[0].getParameterCount() == 0 ? made[0].getModifiers() : -1);
    }

    private static void constants() throws IllegalAccessException {
        List<String> found = new ArrayList<>();
        for (Field field : CensusOffice.class.getDeclaredFields()) {
            if (!Modifier.isPrivate(field.getModifiers())) {
                found.add(field.getName() + " " + field.get(null));
                CHECKS.due("a constant: " + field, Modifier.PUBLIC | Modifier.STATIC | Modifier.FINAL, field::getModifiers);
            }
        }
        CHECKS.due("the constants: " + found, 0, () -> found.equals(Arrays.asList(CONSTANTS)) ? 0 : 1);
    }

    private static void methods() {
        List<String> found = new ArrayList<>();
        for (Method method : CensusOffice.class.getDeclaredMethods()) {
            if (!Modifier.isPrivate(method.getModifiers())) {
                found.add(faceOf(method));
                CHECKS.due("public, of the object: " + method, Modifier.PUBLIC, method::getModifiers);
                CHECKS.due("answers int: " + method, 0, () -> method.getReturnType() == int.class ? 0 : 1);
            }
        }
        CHECKS.due("as many as the document has", METHODS.length, found::size);
        for (String want : METHODS) {
            CHECKS.due("the method " + want, 0, () -> found.contains(want) ? 0 : 1);
        }
    }

    private static String faceOf(Method method) {
        StringBuilder face = new StringBuilder(method.getName()).append(' ');
        for (Class<?> type : method.getParameterTypes()) {
            face.append(type == int.class ? 'i' : type == boolean.class ? 'b' : '?');
        }
        face.append(method.getParameterCount() == 0 ? "- " : " ");
        for (Class<?> type : method.getExceptionTypes()) {
            face.append(type == Checks.INDEX ? 'I' : type == Checks.ARGUMENT ? 'A' : type == Checks.STATE ? 'S'
                    : type == Checks.ROOM ? 'U' : '?');
        }
        return face.toString();
    }
}
