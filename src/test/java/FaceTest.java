import java.lang.reflect.Constructor;
import java.lang.reflect.Field;
import java.lang.reflect.Method;
import java.lang.reflect.Modifier;
import java.util.Arrays;
import java.util.Set;
import java.util.TreeSet;

/** The face: just the members that the document tells, and the rule that no private method bears a public name. */
public final class FaceTest {
    private static final String INDEX = "java.lang.IndexOutOfBoundsException";
    private static final String ARGUMENT = "java.lang.IllegalArgumentException";
    private static final String STATE = "java.lang.IllegalStateException";

    private static final String[] FACE = {
        "int gate(int) " + ARGUMENT + "," + STATE,
        "int lead(int,int,int) " + INDEX + "," + ARGUMENT,
        "int tune(int,int) " + INDEX + "," + ARGUMENT,
        "int flip(int) " + INDEX,
        "int set(int,int) " + INDEX + "," + ARGUMENT,
        "int drop(int) " + ARGUMENT + "," + STATE,
        "int play(int) " + ARGUMENT,
        "int empty(int) " + INDEX,
        "int append(int) " + ARGUMENT + "," + STATE,
        "int clearBuffer() ",
        "int firstError() ",
        "int execute() " + ARGUMENT,
        "int undo() " + STATE,
        "int keep(int) " + ARGUMENT,
        "int goBack(int) " + ARGUMENT + "," + STATE,
        "int gateOf(int,int) " + INDEX + "," + ARGUMENT,
        "int ball(int,int) " + ARGUMENT,
        "int bin(int,int) " + INDEX + "," + ARGUMENT,
        "int count(int) " + ARGUMENT,
        "int note(int,int) " + ARGUMENT,
        "int chord(int) " + ARGUMENT,
        "int notes(int) " + ARGUMENT,
        "float meanPitch() ",
        "int rolled(int,int,int) " + INDEX + "," + ARGUMENT,
        "int sideAfter(int,int) " + INDEX + "," + ARGUMENT,
        "int binOf(int) " + ARGUMENT,
        "int firstInto(int) " + INDEX,
        "int period() ",
        "int way(boolean) "};

    public static void main(String[] args) {
        methodsAreTheDocuments();
        nothingElseIsOpen();
        noPrivateMethodBearsAPublicName();
        Checks.end("FaceTest");
    }

    private static String names(Class<?>[] types) {
        StringBuilder all = new StringBuilder();
        for (Class<?> type : types) {
            all.append(all.length() > 0 ? "," : "").append(type.getName());
        }
        return all.toString();
    }

    private static void methodsAreTheDocuments() {
        Set<String> found = new TreeSet<>();
        for (Method method : MarbleGates.class.getDeclaredMethods()) {
            if (!Modifier.isPrivate(method.getModifiers())) {
                Checks.due(method.getName() + " is public alone", method.getModifiers(), Modifier.PUBLIC);
                found.add(method.getReturnType().getName() + " " + method.getName() + "("
                        + names(method.getParameterTypes()) + ") " + names(method.getExceptionTypes()));
            }
        }
        Checks.dueText("the methods", found.toString(), new TreeSet<>(Arrays.asList(FACE)).toString());
    }

    private static void nothingElseIsOpen() {
        Checks.due("the class", MarbleGates.class.getModifiers(), Modifier.PUBLIC | Modifier.FINAL);
        for (Constructor<?> constructor : MarbleGates.class.getDeclaredConstructors()) {
            Checks.dueText("the constructor", constructor.toString(), "public MarbleGates()");
        }
        for (Field field : MarbleGates.class.getDeclaredFields()) {
            int modifiers = field.getModifiers();
            if (field.getName().equals("NONE")) {
                Checks.due("NONE", modifiers, Modifier.PUBLIC | Modifier.STATIC | Modifier.FINAL);
                Checks.dueText("NONE", field.getType().getName(), "int");
                continue;
            }
            Checks.due("the field " + field.getName() + " is private", modifiers & Modifier.PRIVATE, Modifier.PRIVATE);
            if (Modifier.isStatic(modifiers)) {
                Checks.due("the field " + field.getName() + " is final", modifiers & Modifier.FINAL, Modifier.FINAL);
            }
        }
        for (Class<?> inside : MarbleGates.class.getDeclaredClasses()) {
            Checks.due(inside + " is static and not open",
                    inside.getModifiers() & (Modifier.STATIC | Modifier.PUBLIC | Modifier.PROTECTED), Modifier.STATIC);
        }
    }

    private static void noPrivateMethodBearsAPublicName() {
        String face = " ";
        for (String method : FACE) {
            face += method.substring(method.indexOf(' ') + 1, method.indexOf('(')) + " ";
        }
        dueApart(MarbleGates.class, face);
        for (Class<?> inside : MarbleGates.class.getDeclaredClasses()) {
            dueApart(inside, face);
        }
    }

    private static void dueApart(Class<?> type, String face) {
        for (Method method : type.getDeclaredMethods()) {
            if (Modifier.isPrivate(method.getModifiers())) {
                Checks.due(type + "." + method.getName(), face.indexOf(" " + method.getName() + " "), -1);
            }
        }
    }
}
