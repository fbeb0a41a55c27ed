import java.lang.reflect.Array;
import java.lang.reflect.Field;
import java.lang.reflect.Modifier;
import java.util.ArrayDeque;
import java.util.Collections;
import java.util.Deque;
import java.util.IdentityHashMap;
import java.util.Set;

/**
 * How much room a book takes: few objects and arrays, all made by the constructor and the very same ones after many calls,
 * and none of them shared by two books. All calls of a run live in one room.
 */
public final class RoomTest {
    private static final int MOST_OBJECTS = 100;
    private static final int MOST_CELLS = 4000;

    private static final String[] CALLS = {"10 x horse 7 4", "price 0 9 2", "keep 0", "24 x take 3 9999 true",
        "6 x layOff 3 9999 2 1", "keep 1", "withdraw 4", "set 0 4", "goBack 0", "undo", "type a>b=c", "ifArrived", "settle",
        "keep 0", "6 x undo", "goBack 1", "worst", "cover 3", "safeShare", "digest", "30 x set 1 7", "goBack 0", "type d",
        "firstError", "clearBuffer", "digest"};

    public static void main(String[] args) throws IllegalAccessException {
        FieldBook book = new FieldBook();
        Set<Object> made = reached(book);
        Check.due("a book is few objects and arrays: " + made.size(), made.size() <= MOST_OBJECTS ? 1 : 0, 1);
        Check.due("with few fields and elements: " + cells(made), cells(made) <= MOST_CELLS ? 1 : 0, 1);
        for (int round = 0; round < 3; round++) {
            for (String row : CALLS) {
                play(book, row);
            }
            Set<Object> held = reached(book);
            Check.due("as many after many calls, round " + round, held.size(), made.size());
            Check.due("the same after many calls, round " + round, made.containsAll(held) ? 1 : 0, 1);
        }
        Set<Object> others = reached(new FieldBook());
        others.retainAll(made);
        Check.due("objects that two books share", others.size(), 0);
        Check.end();
    }

    private static void play(FieldBook book, String row) {
        int times = row.contains(" x ") ? Integer.parseInt(row.substring(0, row.indexOf(' '))) : 1;
        for (int time = 0; time < times; time++) {
            Told.answer(book, row.substring(row.contains(" x ") ? row.indexOf(" x ") + 3 : 0));
        }
    }

    /** All objects and arrays that a book holds, itself too, by which they are and not by what they equal. */
    private static Set<Object> reached(FieldBook book) throws IllegalAccessException {
        Set<Object> found = Collections.newSetFromMap(new IdentityHashMap<>());
        Deque<Object> open = new ArrayDeque<>();
        open.add(book);
        while (!open.isEmpty()) {
            Object next = open.remove();
            if (found.add(next)) {
                addHeld(next, open);
            }
        }
        return found;
    }

    private static void addHeld(Object holder, Deque<Object> open) throws IllegalAccessException {
        if (holder instanceof Object[]) {
            for (Object element : (Object[]) holder) {
                if (element != null) {
                    open.add(element);
                }
            }
        } else if (!holder.getClass().isArray()) {
            for (Field field : holder.getClass().getDeclaredFields()) {
                if (!field.getType().isPrimitive() && !Modifier.isStatic(field.getModifiers())) {
                    field.setAccessible(true);
                    if (field.get(holder) != null) {
                        open.add(field.get(holder));
                    }
                }
            }
        }
    }

    private static int cells(Set<Object> objects) {
        int cells = 0;
        for (Object object : objects) {
            if (object.getClass().isArray()) {
                cells += Array.getLength(object);
            } else {
                for (Field field : object.getClass().getDeclaredFields()) {
                    cells += Modifier.isStatic(field.getModifiers()) ? 0 : 1;
                }
            }
        }
        return cells;
    }
}
