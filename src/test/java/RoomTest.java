import java.lang.reflect.Array;
import java.lang.reflect.Field;
import java.lang.reflect.Modifier;
import java.util.ArrayDeque;
import java.util.Collections;
import java.util.Deque;
import java.util.IdentityHashMap;
import java.util.Set;

/** What an object keeps: a small room, made with it, in which all its calls live. */
public final class RoomTest {
    private static final int OBJECTS_MOST = 200;
    private static final int CELLS_MOST = 12000;
    private int cells = 0;

    public static void main(String[] args) throws IllegalAccessException {
        PaperParcels x = new PaperParcels();
        Set<Object> before = new RoomTest().reach(x);
        useAll(x);
        RoomTest room = new RoomTest();
        Set<Object> after = room.reach(x);
        Check.due("the same objects are kept after the calls", after.equals(before), true);
        Check.due("objects and arrays are few: " + after.size(), after.size() <= OBJECTS_MOST, true);
        Check.due("fields and elements are few: " + room.cells, room.cells <= CELLS_MOST, true);
        Check.finish("RoomTest");
    }

    private static void useAll(PaperParcels x) {
        Cases.readInto(x, 0, Cases.STYLE, "<d><p>abc</p><l><i><p y=\"A\">d</p></i></l></d>");
        Cases.readInto(x, 1, Cases.STYLE, "<d><l><i><p y=\"A\">d</p><p/></i></l><p>abd</p></d>");
        Check.due("fault", Parcels.read(x, 0, "S"), "1:1");
        x.compare();
        for (int n = 0; n <= x.steps(); n++) {
            x.apply(n);
            x.emit(2, n % 2);
            Check.due("state", Parcels.state(x).isEmpty(), false);
        }
    }

    /** All that can be reached from an object, itself with it. */
    private Set<Object> reach(Object from) throws IllegalAccessException {
        Set<Object> met = Collections.newSetFromMap(new IdentityHashMap<>());
        Deque<Object> open = new ArrayDeque<>();
        open.add(from);
        while (!open.isEmpty()) {
            Object one = open.pop();
            if (met.add(one)) {
                addWhatIsIn(one, open);
            }
        }
        return met;
    }

    private void addWhatIsIn(Object one, Deque<Object> open) throws IllegalAccessException {
        if (one.getClass().isArray()) {
            int length = Array.getLength(one);
            cells += length;
            for (int i = 0; i < length && !one.getClass().getComponentType().isPrimitive(); i++) {
                open.add(Array.get(one, i));
            }
            return;
        }
        for (Field field : one.getClass().getDeclaredFields()) {
            if (!Modifier.isStatic(field.getModifiers())) {
                cells++;
                field.setAccessible(true);
                if (!field.getType().isPrimitive() && field.get(one) != null) {
                    open.add(field.get(one));
                }
            }
        }
    }
}
