import java.lang.reflect.Constructor;
import java.lang.reflect.Field;
import java.lang.reflect.Method;
import java.lang.reflect.Modifier;
import java.util.ArrayList;
import java.util.Arrays;
import java.util.List;
import java.util.TreeSet;

/** The class shows the face of the document, and nothing besides. */
public final class FaceTest {
    private static final String[] FACE = {
        "int answer(int) throws IndexOutOfBoundsException IllegalStateException",
        "int coins(int) throws IndexOutOfBoundsException",
        "int escrow() throws",
        "int falseMarks(int) throws IndexOutOfBoundsException",
        "int leastStake(int) throws IndexOutOfBoundsException",
        "int letters() throws",
        "int mark(int) throws IndexOutOfBoundsException IllegalStateException",
        "int marksOn(int) throws IndexOutOfBoundsException",
        "int pass(int) throws IllegalArgumentException IllegalStateException",
        "int pool(int) throws IndexOutOfBoundsException",
        "int queue(int) throws IndexOutOfBoundsException",
        "int queueAt(int int) throws IndexOutOfBoundsException",
        "int relayOf(int) throws IndexOutOfBoundsException",
        "int reputation(int) throws IndexOutOfBoundsException",
        "int reputationAtOnce(int) throws IndexOutOfBoundsException",
        "int send(int int int) throws IndexOutOfBoundsException IllegalArgumentException IllegalStateException",
        "int setRoute(int int int) throws IndexOutOfBoundsException IllegalArgumentException",
        "int stateOf(int) throws IndexOutOfBoundsException",
        "int steps(int int) throws IndexOutOfBoundsException",
        "int time() throws",
    };
    private static final String[] CONSTANTS = {
        "ANSWERED = 2", "DELIVERED = 1", "EXPIRED = 5", "LOST = 4", "MARKED = 3", "NONE = -1", "UNDER_WAY = 0",
    };

    private static int wrong = 0;

    public static void main(String[] args) throws IllegalAccessException {
        checkClass();
        checkMethods();
        checkFields();
        System.out.println(wrong == 0 ? "all answers are as due" : wrong + " answers are not as due");
        if (wrong != 0) {
            System.exit(1);
        }
    }

    private static void due(String what, Object got, Object want) {
        if (!got.equals(want)) {
            wrong++;
            System.out.println(what + " is " + got + ", due is " + want);
        }
    }

    private static void checkClass() {
        due("the class", Modifier.toString(StampRelay.class.getModifiers()), "public final");
        due("its superclass", StampRelay.class.getSuperclass(), Object.class);
        due("the interfaces", StampRelay.class.getInterfaces().length, 0);
        Constructor<?>[] makers = StampRelay.class.getDeclaredConstructors();
        due("the constructors", makers.length, 1);
        due("the constructor", makers[0].toString(), "public StampRelay()");
    }

    private static void checkMethods() {
        TreeSet<String> shown = new TreeSet<>();
        TreeSet<String> names = new TreeSet<>();
        for (Method method : StampRelay.class.getDeclaredMethods()) {
            if (Modifier.isPrivate(method.getModifiers())) {
                continue;
            }
            due("the modifiers of " + method.getName(), Modifier.toString(method.getModifiers()), "public");
            shown.add(method.getReturnType().getSimpleName() + " " + method.getName()
                    + "(" + namesOf(method.getParameterTypes()) + ") throws"
                    + (method.getExceptionTypes().length == 0 ? "" : " ") + namesOf(method.getExceptionTypes()));
            names.add(method.getName());
        }
        due("the methods", shown, new TreeSet<>(Arrays.asList(FACE)));
        for (Method method : StampRelay.class.getDeclaredMethods()) {
            if (Modifier.isPrivate(method.getModifiers())) {
                due("that a private method is named " + method.getName(), names.contains(method.getName()), false);
            }
        }
    }

    private static String namesOf(Class<?>[] types) {
        List<String> names = new ArrayList<>();
        for (Class<?> type : types) {
            names.add(type.getSimpleName());
        }
        return String.join(" ", names);
    }

    private static void checkFields() throws IllegalAccessException {
        TreeSet<String> shown = new TreeSet<>();
        for (Field field : StampRelay.class.getDeclaredFields()) {
            if (Modifier.isPrivate(field.getModifiers())) {
                continue;
            }
            due("the modifiers of " + field.getName(), Modifier.toString(field.getModifiers()), "public static final");
            due("the type of " + field.getName(), field.getType(), int.class);
            shown.add(field.getName() + " = " + field.getInt(null));
        }
        due("the constants", shown, new TreeSet<>(Arrays.asList(CONSTANTS)));
    }
}
