import java.lang.reflect.Constructor;
import java.lang.reflect.Field;
import java.lang.reflect.Method;
import java.lang.reflect.Modifier;
import java.util.Set;
import java.util.TreeSet;

/** The public face, and the rules of the language that can be seen from a compiled class. */
public final class FaceTest {
    private static final String[] METHODS = {
        "int code(long, int)", "int function(int, int)", "int clear()", "int pack()", "int section(int)",
        "boolean poke(int, int)", "int row(int, int) java.lang.IllegalArgumentException",
        "boolean begin(int, int, int, int)",
        "int step() java.lang.IllegalStateException java.lang.IndexOutOfBoundsException",
        "int machine(int)", "int call(int)", "int unwind()", "int frame(int, int)"
    };

    public static void main(String[] args) {
        Check check = new Check();
        Class<?> face = ChainUnwinder.class;
        check.is("public and final", face.getModifiers(), Modifier.PUBLIC | Modifier.FINAL);
        checkMethods(check, face);
        checkFields(check, face);
        Constructor<?>[] constructors = face.getDeclaredConstructors();
        check.is("constructors", constructors.length, 1);
        check.is("public constructor", constructors[0].getModifiers(), Modifier.PUBLIC);
        check.is("its parameters", constructors[0].getParameterCount(), 0);
        check.is("classes inside are few", face.getDeclaredClasses().length <= 12, true);
        for (Class<?> inside : face.getDeclaredClasses()) {
            check.is(inside + " is static", Modifier.isStatic(inside.getModifiers()), true);
            checkStaticFields(check, inside);
        }
        check.end();
    }

    private static void checkMethods(Check check, Class<?> face) {
        Set<String> open = new TreeSet<>();
        Set<String> openNames = new TreeSet<>();
        Set<String> hiddenNames = new TreeSet<>();
        for (Method method : face.getDeclaredMethods()) {
            if (Modifier.isPrivate(method.getModifiers())) {
                hiddenNames.add(method.getName());
            } else {
                check.is(method + " is just public", method.getModifiers(), Modifier.PUBLIC);
                open.add(describe(method));
                openNames.add(method.getName());
            }
        }
        for (Class<?> inside : face.getDeclaredClasses()) {
            for (Method method : inside.getDeclaredMethods()) {
                hiddenNames.add(method.getName());
                check.is(method + " takes few", method.getParameterCount() <= 7, true);
            }
        }
        check.is("the public methods " + open, open.equals(new TreeSet<>(Set.of(METHODS))), true);
        hiddenNames.retainAll(openNames);
        check.is("hidden methods named as public ones " + hiddenNames, hiddenNames.size(), 0);
    }

    private static String describe(Method method) {
        StringBuilder text = new StringBuilder(method.getReturnType() + " " + method.getName() + "(");
        for (int i = 0; i < method.getParameterCount(); i++) {
            text.append(i == 0 ? "" : ", ").append(method.getParameterTypes()[i]);
        }
        text.append(")");
        for (Class<?> thrown : method.getExceptionTypes()) {
            text.append(" ").append(thrown.getName());
        }
        return text.toString();
    }

    private static void checkFields(Check check, Class<?> face) {
        checkStaticFields(check, face);
        for (Field field : face.getDeclaredFields()) {
            boolean constant = field.getName().equals("NONE");
            int modifiers = field.getModifiers();
            check.is(field + " is open", !Modifier.isPrivate(modifiers), constant);
            if (constant) {
                int due = Modifier.PUBLIC | Modifier.STATIC | Modifier.FINAL;
                check.is("NONE's modifiers", modifiers, due);
            }
        }
    }

    private static void checkStaticFields(Check check, Class<?> owner) {
        int ownFields = 0;
        for (Field field : owner.getDeclaredFields()) {
            if (!Modifier.isStatic(field.getModifiers())) {
                ownFields++;
            } else {
                check.is(field + " is final", Modifier.isFinal(field.getModifiers()), true);
            }
        }
        check.is(owner + " has few fields", ownFields <= 20, true);
    }
}
