import java.lang.reflect.Constructor;
import java.lang.reflect.Field;
import java.lang.reflect.Method;
import java.lang.reflect.Modifier;
import java.util.TreeSet;

/** The public face: the constants, the constructor and the methods of the document, and nothing beside them. */
final class FaceTest {
    private static final String[] METHODS = {
        "floor 2", "set 2", "pattern 0", "way 1", "want 3", "cell 3", "count 1", "shade 1", "undo 0",
        "strip 2", "flaw 2", "cut 1", "stripOf 2",
        "lay 2", "layAll 0", "lift 2", "nearest 2", "ready 1", "lacks 1", "stripFor 1", "ifLaid 0",
        "type 1", "clearText 0", "fault 0"};
    private static final String[] CONSTANTS = {"INVALID_ARGUMENT", "NOT_POSSIBLE", "LIMIT_REACHED", "NOT_FOUND"};

    public static void main(String[] args) {
        Due due = new Due("FaceTest");
        due.is("INVALID_ARGUMENT", MosaicFloor.INVALID_ARGUMENT, -1);
        due.is("NOT_POSSIBLE", MosaicFloor.NOT_POSSIBLE, -2);
        due.is("LIMIT_REACHED", MosaicFloor.LIMIT_REACHED, -3);
        due.is("NOT_FOUND", MosaicFloor.NOT_FOUND, -4);
        due.is("public and final", MosaicFloor.class.getModifiers(), Modifier.PUBLIC | Modifier.FINAL);
        TreeSet<String> wanted = new TreeSet<>();
        for (String method : METHODS) {
            wanted.add("method " + method);
        }
        for (String constant : CONSTANTS) {
            wanted.add("constant " + constant);
        }
        wanted.add("constructor 0");
        TreeSet<String> seen = seenMembers();
        for (String member : wanted) {
            due.is(member + " is there", seen.contains(member) ? 1 : 0, 1);
        }
        for (String member : seen) {
            due.is(member + " is of the document", wanted.contains(member) ? 1 : 0, 1);
        }
        for (Class<?> inside : MosaicFloor.class.getDeclaredClasses()) {
            due.is(inside.getName() + " is static", Modifier.isStatic(inside.getModifiers()) ? 1 : 0, 1);
            noPublicName(due, inside, wanted);
            due.is(inside.getName() + " is not public", Modifier.isPublic(inside.getModifiers()) ? 1 : 0, 0);
        }
        noPublicName(due, MosaicFloor.class, wanted);
        due.end();
    }

    /** No private method, nor one of a class inside, bears the name of a public one. */
    private static void noPublicName(Due due, Class<?> type, TreeSet<String> wanted) {
        for (Method method : type.getDeclaredMethods()) {
            boolean name = false;
            for (String member : wanted) {
                name |= member.startsWith("method " + method.getName() + " ");
            }
            due.is(type.getName() + "." + method.getName() + " has a public name", name ? 1 : 0,
                    Modifier.isPublic(method.getModifiers()) ? 1 : 0);
        }
    }

    private static TreeSet<String> seenMembers() {
        TreeSet<String> seen = new TreeSet<>();
        for (Method method : MosaicFloor.class.getDeclaredMethods()) {
            if (!Modifier.isPrivate(method.getModifiers())) {
                boolean plain = method.getModifiers() == Modifier.PUBLIC && method.getReturnType() == int.class;
                seen.add((plain ? "method " : "strange method ") + method.getName() + " " + method.getParameterCount());
            }
        }
        for (Field field : MosaicFloor.class.getDeclaredFields()) {
            if (!Modifier.isPrivate(field.getModifiers())) {
                boolean plain = field.getModifiers() == (Modifier.PUBLIC | Modifier.STATIC | Modifier.FINAL)
                        && field.getType() == int.class;
                seen.add((plain ? "constant " : "strange field ") + field.getName());
            }
        }
        for (Constructor<?> constructor : MosaicFloor.class.getDeclaredConstructors()) {
            if (!Modifier.isPrivate(constructor.getModifiers())) {
                seen.add("constructor " + constructor.getParameterCount());
            }
        }
        return seen;
    }
}
