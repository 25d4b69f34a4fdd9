import java.lang.reflect.Constructor;
import java.lang.reflect.Field;
import java.lang.reflect.Method;
import java.lang.reflect.Modifier;
import java.util.Map;
import java.util.TreeMap;

/** The public face: exactly the document's constants, constructor and methods. */
public final class FaceTest {
    private static final Due due = new Due();

    private static final String[] METHODS = {
        "begin 1", "write 2", "remove 1", "keep 2", "close 0", "eject 0", "repair 1", "damage 1", "set 2",
        "append 1", "clearText 0", "fault 0", "run 0", "undo 0",
        "sessions 0", "session 2", "entry 3", "valid 0", "next 0", "damaged 1", "use 1", "setting 1",
        "find 1", "intact 1", "intactFiles 0", "versions 1", "latestIntact 1", "lost 0", "usedWell 0",
        "largest 0", "filesLeft 1", "filesEach 1", "validIf 1", "worstSector 0"};

    private static Map<String, Integer> constants() {
        Map<String, Integer> constants = new TreeMap<>();
        constants.put("NO_SUCH", -1);
        constants.put("BAD_VALUE", -2);
        constants.put("BAD_TEXT", -3);
        constants.put("TOO_MANY", -4);
        constants.put("NOT_POSSIBLE", -5);
        constants.put("NONE", -6);
        constants.put("LEAD_IN", 0);
        constants.put("LEAD_OUT", 1);
        constants.put("OPEN", 0);
        constants.put("CLOSED", 1);
        constants.put("BROKEN", 2);
        return constants;
    }

    private static boolean isHidden(int modifiers) {
        return Modifier.isPrivate(modifiers);
    }

    private static void constantsAreAsDue() throws IllegalAccessException {
        Map<String, Integer> left = constants();
        for (Field field : WriteOnceDisc.class.getDeclaredFields()) {
            if (isHidden(field.getModifiers())) {
                continue;
            }
            Integer value = left.remove(field.getName());
            due.same("constant " + field.getName() + " is known", value == null ? 0 : 1, 1);
            int want = Modifier.PUBLIC | Modifier.STATIC | Modifier.FINAL;
            due.same("modifiers of " + field.getName(), field.getModifiers(), want);
            if (value != null) {
                due.same(field.getName(), field.getInt(null), value);
            }
        }
        due.same("constants that are missing: " + left.keySet(), left.size(), 0);
    }

    private static void methodsAreAsDue() {
        Map<String, Integer> left = new TreeMap<>();
        for (String method : METHODS) {
            left.put(method, 1);
        }
        for (Method method : WriteOnceDisc.class.getDeclaredMethods()) {
            if (isHidden(method.getModifiers())) {
                continue;
            }
            String name = method.getName() + " " + method.getParameterCount();
            due.same("method " + name + " is known", left.remove(name) == null ? 0 : 1, 1);
            due.same("modifiers of " + name, method.getModifiers(), Modifier.PUBLIC);
            Class<?> answer = method.getName().equals("usedWell") ? float.class : int.class;
            due.same("answer of " + name, method.getReturnType() == answer ? 1 : 0, 1);
            for (Class<?> parameter : method.getParameterTypes()) {
                due.same("parameters of " + name, parameter == int.class ? 1 : 0, 1);
            }
        }
        due.same("methods that are missing: " + left.keySet(), left.size(), 0);
    }

    public static void main(String[] args) throws IllegalAccessException {
        due.same("class is public and final", WriteOnceDisc.class.getModifiers(), Modifier.PUBLIC | Modifier.FINAL);
        Constructor<?>[] constructors = WriteOnceDisc.class.getDeclaredConstructors();
        due.same("constructors", constructors.length, 1);
        due.same("constructor's parameters", constructors[0].getParameterCount(), 0);
        due.same("constructor's modifiers", constructors[0].getModifiers(), Modifier.PUBLIC);
        constantsAreAsDue();
        methodsAreAsDue();
        due.end();
    }
}
