import java.lang.reflect.Array;
import java.lang.reflect.Field;
import java.lang.reflect.Modifier;
import java.util.ArrayList;
import java.util.Collections;
import java.util.IdentityHashMap;
import java.util.List;
import java.util.Set;

/**
 * What an object is made of, looked at from inside: no reference of a new one is null, so none has
 * to be tested before it is used, it is small, and no call makes it more or puts other rows into it.
 */
public final class RoomTest {
    private static final Due due = new Due();
    private static final int MOST_OBJECTS = 50;
    private static final int MOST_ELEMENTS = 3000;
    private static final String[] DEAR = {
        "text(****" + "11AAA11A1".repeat(4) + ")", "page()", "begin(10)", "allow(2046)", "write(0, 0, -1)",
        "write(1, 0, 0)", "write(2, 0, 3)", "write(3, 35, -1)", "soonest(-1)", "soonest(3)", "image(0)",
        "text(?????" + "1".repeat(35) + ")", "page()", "begin(10)", "weight(4, 1)", "weight(5, 1)",
        "weight(6, 1)", "weight(7, 1)", "weight(8, 1)", "weight(9, 1)", "weight(10, 1)", "likely(0, 9, 1)",
        "all(0)", "seen(0, 39)", "seen(4, 39)", "fits()", "drawn(4, 1, 0)", "drawn(0, 10, 1)", "image(1)",
        "text(" + "12345678".repeat(5) + ")", "page()", "begin(10)", "streams()", "meet(0, 9)", "pass(-1)",
        "tree(39, 2)", "nowhere()", "minds(3, 3)", "one(0)", "best(0)", "wrong(0, 9)", "shuffle(7)",
        "restore(0)", "restore(1)", "forget()"};

    private final Set<Object> found = Collections.newSetFromMap(new IdentityHashMap<>());
    private final List<String> empty = new ArrayList<>();
    private int elements = 0;

    public static void main(String[] args) throws IllegalAccessException {
        WhereverBegun x = new WhereverBegun();
        RoomTest before = roomOf(x);
        due.holds("null in a new object: " + before.empty, before.empty.isEmpty());
        due.holds(before.found.size() + " objects and arrays", before.found.size() <= MOST_OBJECTS);
        due.holds(before.elements + " fields and elements", before.elements <= MOST_ELEMENTS);
        for (String call : DEAR) {
            long answer = Script.call(x, call);
            due.holds(call + " is not refused", answer >= 0 || answer == WhereverBegun.NONE);
            RoomTest after = roomOf(x);
            due.holds("null after " + call + ": " + after.empty, after.empty.isEmpty());
            due.holds(call + " makes nothing", after.found.equals(before.found));
            due.is("elements after " + call, after.elements, before.elements);
        }
        due.end();
    }

    private static RoomTest roomOf(WhereverBegun x) throws IllegalAccessException {
        RoomTest room = new RoomTest();
        room.look(x);
        return room;
    }

    private void look(Object o) throws IllegalAccessException {
        if (!found.add(o)) {
            return;
        }
        if (o.getClass().isArray()) {
            elements += Array.getLength(o);
            for (int i = 0; i < Array.getLength(o) && !o.getClass().getComponentType().isPrimitive(); i++) {
                lookInto(o.getClass().getSimpleName() + " " + i, Array.get(o, i));
            }
            return;
        }
        for (Field f : o.getClass().getDeclaredFields()) {
            if (Modifier.isStatic(f.getModifiers())) {
                continue;
            }
            elements++;
            if (!f.getType().isPrimitive()) {
                f.setAccessible(true);
                lookInto(o.getClass().getSimpleName() + "." + f.getName(), f.get(o));
            }
        }
    }

    private void lookInto(String name, Object part) throws IllegalAccessException {
        if (part == null) {
            empty.add(name);
        } else {
            look(part);
        }
    }
}
