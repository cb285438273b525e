import java.lang.reflect.Field;
import java.lang.reflect.Method;
import java.lang.reflect.Modifier;
import java.util.Map;
import java.util.TreeMap;

/** The public face: the members of the document, and no others that are not private. */
final class FaceTest {
    private static final Due due = new Due("FaceTest");
    private static final String[] METHODS = {
        "type char", "clearText", "addBox", "addProp int", "addClue int int int", "setExit int", "setLimits int int",
        "addPaint int", "book int int", "cancel int", "startGame", "take int", "lay int int", "open int int",
        "read int", "rest int", "nudge", "giveUp", "idle int", "putHome int", "close int", "writeOver int", "reset",
        "keep int", "restore int", "box int int", "prop int int", "clue int int", "game int", "group int int",
        "result int int", "nextStep", "plan int", "differences int", "logAt int", "count int"};

    public static void main(String[] args) {
        constants();
        methods();
        due.is("public final", ResetRooms.class.getModifiers(), Modifier.PUBLIC | Modifier.FINAL);
        due.is("constructors", ResetRooms.class.getDeclaredConstructors().length, 1);
        due.is("public constructors", ResetRooms.class.getConstructors().length, 1);
        due.end();
    }

    private static void constants() {
        due.is("UNKNOWN", ResetRooms.UNKNOWN, Due.UNKNOWN);
        due.is("BAD_VALUE", ResetRooms.BAD_VALUE, Due.BAD_VALUE);
        due.is("FULL", ResetRooms.FULL, Due.FULL);
        due.is("NOT_POSSIBLE", ResetRooms.NOT_POSSIBLE, Due.NOT_POSSIBLE);
        due.is("NONE", ResetRooms.NONE, Due.NONE);
        due.is("TIME_OVER", ResetRooms.TIME_OVER, Due.TIME_OVER);
        int open = 0;
        for (Field field : ResetRooms.class.getDeclaredFields()) {
            open += Modifier.isPrivate(field.getModifiers()) ? 0 : 1;
        }
        due.is("fields that are not private", open, 6);
    }

    private static void methods() {
        Map<String, Integer> found = new TreeMap<>();
        Map<String, Integer> names = new TreeMap<>();
        for (Method method : ResetRooms.class.getDeclaredMethods()) {
            names.merge(method.getName(), 1, Integer::sum);
            if (!Modifier.isPrivate(method.getModifiers())) {
                StringBuilder face = new StringBuilder(method.getName());
                for (Class<?> type : method.getParameterTypes()) {
                    face.append(' ').append(type.getName());
                }
                int isFace = method.getModifiers() == Modifier.PUBLIC && method.getReturnType() == int.class ? 1 : 0;
                found.put(face.toString(), isFace);
            }
        }
        for (String method : METHODS) {
            due.is(method, found.getOrDefault(method, 0), 1);
            due.is("methods with the name of " + method, names.getOrDefault(method.split(" ")[0], 0), 1);
        }
        due.is("methods that are not private", found.size(), METHODS.length);
    }
}
