import java.lang.reflect.Constructor;
import java.lang.reflect.Field;
import java.lang.reflect.Method;
import java.lang.reflect.Modifier;
import java.util.ArrayList;
import java.util.Arrays;
import java.util.Collections;
import java.util.HashSet;
import java.util.List;
import java.util.Set;

/** The public face, to the letter, and what LANGUAGE.md says of the other members. */
public final class FaceTest {
    private static final String INDEX = " throws IndexOutOfBoundsException";
    private static final String ARGUMENT = " throws IllegalArgumentException";
    private static final String STATE = " throws IllegalStateException";
    private static final String AND_ARGUMENT = " IllegalArgumentException";
    private static final String AND_STATE = " IllegalStateException";

    private static final String[] FACE = {
        "int grade(int,int)" + INDEX + AND_ARGUMENT,
        "int spring(int,int)" + INDEX + AND_ARGUMENT + AND_STATE,
        "int car()" + STATE,
        "int load(int,int)" + INDEX + AND_ARGUMENT + AND_STATE,
        "int release(int,int)" + INDEX + AND_ARGUMENT,
        "int brake(int,int)" + INDEX + AND_ARGUMENT + AND_STATE,
        "int pull(int)" + INDEX,
        "int set(int,int)" + INDEX + AND_ARGUMENT,
        "int run(int)" + ARGUMENT,
        "int append(int)" + ARGUMENT + AND_STATE,
        "int clearBuffer()",
        "int firstError()",
        "int execute()" + ARGUMENT,
        "int undo()" + STATE,
        "int keep(int)" + ARGUMENT,
        "int goBack(int)" + ARGUMENT + AND_STATE,
        "int section(int,int)" + INDEX + AND_ARGUMENT,
        "int carOf(int,int)" + INDEX + AND_ARGUMENT,
        "int cars(int)" + ARGUMENT,
        "int rolling(int)" + ARGUMENT,
        "int count(int)" + ARGUMENT,
        "int refusal(int,boolean)" + INDEX,
        "int ifAlone(int,int,int)" + ARGUMENT,
        "int leastBrake(int)" + ARGUMENT,
        "int ifRun(int,int)" + ARGUMENT,
        "float meanSpeed()",
    };

    public static void main(String[] args) {
        Check.due("NONE", -1, () -> OreRailway.NONE);
        Check.holds("the class is public and final",
                OreRailway.class.getModifiers() == (Modifier.PUBLIC | Modifier.FINAL));
        Check.holds("it extends Object and nothing else",
                OreRailway.class.getSuperclass() == Object.class
                        && OreRailway.class.getInterfaces().length == 0);
        constructor();
        methods();
        fields();
        names();
        sizes();
        Check.end();
    }

    private static void constructor() {
        Constructor<?>[] all = OreRailway.class.getDeclaredConstructors();
        Check.holds("one constructor, public, without parameters", all.length == 1
                && all[0].getModifiers() == Modifier.PUBLIC && all[0].getParameterCount() == 0);
    }

    private static void methods() {
        List<String> found = new ArrayList<>();
        for (Method method : OreRailway.class.getDeclaredMethods()) {
            if (!Modifier.isPrivate(method.getModifiers()) && !method.isSynthetic()) {
                Check.holds(method + " is public and an object's",
                        method.getModifiers() == Modifier.PUBLIC);
                found.add(describe(method));
            }
        }
        List<String> want = new ArrayList<>(Arrays.asList(FACE));
        Collections.sort(want);
        Collections.sort(found);
        Check.holds("methods found: " + found, found.equals(want));
    }

    private static String describe(Method method) {
        StringBuilder text = new StringBuilder();
        text.append(method.getReturnType()).append(' ').append(method.getName()).append('(');
        for (int i = 0; i < method.getParameterCount(); i++) {
            text.append(i == 0 ? "" : ",").append(method.getParameterTypes()[i]);
        }
        text.append(')');
        for (int i = 0; i < method.getExceptionTypes().length; i++) {
            text.append(i == 0 ? " throws " : " ");
            text.append(method.getExceptionTypes()[i].getSimpleName());
        }
        return text.toString();
    }

    private static void fields() {
        for (Field field : OreRailway.class.getDeclaredFields()) {
            int modifiers = field.getModifiers();
            Check.holds(field + " is NONE or private",
                    Modifier.isPrivate(modifiers) || field.getName().equals("NONE"));
            Check.holds(field + " is final if it is static",
                    !Modifier.isStatic(modifiers) || Modifier.isFinal(modifiers));
        }
    }

    /** LANGUAGE.md, rule 1, for the classes inside too, and how many these are. */
    private static void names() {
        Set<String> publicNames = new HashSet<>();
        for (Method method : OreRailway.class.getDeclaredMethods()) {
            if (Modifier.isPublic(method.getModifiers())) {
                publicNames.add(method.getName());
            } else {
                Check.holds(method + " bears a name of its own",
                        !isFaceName(method.getName()));
            }
        }
        Check.holds("classes inside", OreRailway.class.getDeclaredClasses().length <= 11);
        for (Class<?> inside : OreRailway.class.getDeclaredClasses()) {
            Check.holds(inside + " is not public", !Modifier.isPublic(inside.getModifiers())
                    && !Modifier.isProtected(inside.getModifiers()));
            Check.holds(inside + " is static", Modifier.isStatic(inside.getModifiers()));
            for (Method method : inside.getDeclaredMethods()) {
                Check.holds(method + " bears a name of its own",
                        !publicNames.contains(method.getName()));
            }
        }
    }

    /** LANGUAGE.md, rule 11. */
    private static void sizes() {
        List<Class<?>> all = new ArrayList<>();
        all.add(OreRailway.class);
        all.addAll(Arrays.asList(OreRailway.class.getDeclaredClasses()));
        for (Class<?> each : all) {
            int fields = 0;
            for (Field field : each.getDeclaredFields()) {
                fields += Modifier.isStatic(field.getModifiers()) ? 0 : 1;
            }
            Check.holds(each + " has " + fields + " fields", fields <= 20);
            for (Method method : each.getDeclaredMethods()) {
                Check.holds(method + " has too many parameters", method.getParameterCount() <= 7);
            }
        }
    }

    private static boolean isFaceName(String name) {
        for (String line : FACE) {
            if (line.contains(" " + name + "(")) {
                return true;
            }
        }
        return false;
    }
}
