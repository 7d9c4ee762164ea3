import java.lang.reflect.Array;
import java.lang.reflect.Field;
import java.lang.reflect.Modifier;
import java.util.ArrayList;
import java.util.Collections;
import java.util.IdentityHashMap;
import java.util.List;
import java.util.Set;

/** What a floor keeps: a thousand floors fit in one room, and calls keep no object that the constructor did not make. */
final class RoomTest {
    private static final int MOST_OBJECTS = 600_000 / 1000;
    private static final int MOST_PLACES = 7_300_000 / 1000;

    public static void main(String[] args) throws IllegalAccessException {
        Due due = new Due("RoomTest");
        MosaicFloor x = new MosaicFloor();
        Set<Object> before = kept(x);
        due.is("objects are few", before.size() <= MOST_OBJECTS ? 1 : 0, 1);
        due.is("fields and elements are few", places(before) <= MOST_PLACES ? 1 : 0, 1);
        useAll(x);
        Set<Object> behind = kept(x);
        due.is("objects behind many calls", behind.size(), before.size());
        due.is("the same ones", behind.containsAll(before) ? 1 : 0, 1);
        due.is("fields and elements", places(behind), places(before));
        due.end();
    }

    /** Less than 512 calls, each kind among them, with full strips, a full text and a full history. */
    private static void useAll(MosaicFloor x) {
        Due.typeText(x, Due.shadesFrom10(8));
        x.pattern();
        x.fault();
        x.way(2);
        x.floor(12, 12);
        x.set(0, 5);
        x.want(1, 1, 9);
        for (int strip = 0; strip <= 10; strip++) {
            x.strip(1000, 10 + strip);
            for (int flaw = 0; flaw <= 6; flaw++) {
                x.flaw(strip, 9 * flaw);
            }
            x.cut(strip);
            x.stripOf(strip, 5);
        }
        x.nearest(1, 1);
        x.lay(1, 1);
        x.ifLaid();
        x.layAll();
        for (int row = 0; row < 12; row++) {
            x.lift(row, row);
            x.undo();
            x.lift(row, row);
        }
        for (int shade = 0; shade < 20; shade++) {
            x.ready(shade);
            x.lacks(shade);
            x.stripFor(shade);
            x.shade(shade);
            x.count(shade);
            x.cell(0, 0, shade);
        }
        for (int i = 0; i <= 80; i++) {
            x.type(',');
        }
        x.clearText();
    }

    /** All objects and arrays that can be reached from one. */
    private static Set<Object> kept(Object first) throws IllegalAccessException {
        Set<Object> kept = Collections.newSetFromMap(new IdentityHashMap<>());
        List<Object> waiting = new ArrayList<>(List.of(first));
        while (!waiting.isEmpty()) {
            Object next = waiting.remove(waiting.size() - 1);
            if (kept.add(next)) {
                waiting.addAll(references(next));
            }
        }
        return kept;
    }

    private static List<Object> references(Object object) throws IllegalAccessException {
        List<Object> found = new ArrayList<>();
        if (object instanceof Object[] elements) {
            for (Object element : elements) {
                addIfThere(found, element);
            }
        }
        for (Field field : object.getClass().getDeclaredFields()) {
            if (!Modifier.isStatic(field.getModifiers()) && !field.getType().isPrimitive()) {
                field.setAccessible(true);
                addIfThere(found, field.get(object));
            }
        }
        return found;
    }

    private static void addIfThere(List<Object> found, Object object) {
        if (object != null) {
            found.add(object);
        }
    }

    private static int places(Set<Object> objects) {
        int places = 0;
        for (Object object : objects) {
            if (object.getClass().isArray()) {
                places += Array.getLength(object);
            } else {
                for (Field field : object.getClass().getDeclaredFields()) {
                    places += Modifier.isStatic(field.getModifiers()) ? 0 : 1;
                }
            }
        }
        return places;
    }
}
