import java.lang.reflect.Array;
import java.lang.reflect.Field;
import java.lang.reflect.Modifier;
import java.util.ArrayDeque;
import java.util.Collections;
import java.util.Deque;
import java.util.IdentityHashMap;
import java.util.Set;

/**
 * All calls of one run live in one room: an object is small when it is made, and the dearest calls
 * leave neither an object nor an array more in it.
 */
public final class RoomTest {
    private static final Check CHECK = new Check("RoomTest");
    // Our own bounds, so that it is seen if an object grows; the room itself is far greater.
    private static final int MOST_THINGS = 250;
    private static final int MOST_ELEMENTS = 10000;

    private int things;
    private int elements;

    public static void main(String[] args) throws IllegalAccessException {
        LightestSack x = new LightestSack();
        RoomTest fresh = of(x);
        CHECK.due("objects and arrays: " + fresh.things, fresh.things <= MOST_THINGS ? 1 : 0, 1);
        CHECK.due("fields and elements: " + fresh.elements,
                fresh.elements <= MOST_ELEMENTS ? 1 : 0, 1);
        fullMill(x);
        for (int k = 0; k < 8; k++) {
            ask(x, k);
        }
        smallMill(x);
        for (int k = 0; k < 8; k++) {
            askSmall(x);
        }
        RoomTest used = of(x);
        CHECK.due("objects and arrays behind the calls", used.things, fresh.things);
        CHECK.due("fields and elements behind the calls", used.elements, fresh.elements);
        CHECK.end();
    }

    /** 24 sacks, 60 pieces, 8 keys, every image and tray. */
    private static void fullMill(LightestSack x) {
        StringBuilder text = new StringBuilder("stone 9;stone 8;stone 7;clean 60;fee 9;");
        for (int i = 0; i < 24; i++) {
            text.append("sack 30 of ").append(i % 8).append(" at ").append(i).append(" sort ")
                    .append(i % 4).append(" worth 9;");
        }
        CHECK.due("the mill", Check.mill(x, text.toString()), 29);
        CHECK.due("the law", Check.law(x, "by turn then same then due then early then late then "
                + "light then dear then heavy;small 99;"), 8);
        for (int s = 0; s < 5; s++) {
            Check.part(x, s, s % 4, 23, 1, 1, 1, 1, 1, 1, 1);
        }
        CHECK.due("pieces", Check.part(x, 5, 0, 29, 1), 60);
        for (int i = 0; i < 4; i++) {
            x.tray(i, i, 60);
            x.pour(i);
            x.image(i % 3);
        }
    }

    private static void ask(LightestSack x, int k) {
        for (int what = 0; what < 6; what++) {
            x.total(what);
        }
        x.parting(k, 6, 0);
        x.when(k, k % 2);
        x.heaviest(k);
        x.fee(3);
        x.bestLaw();
        x.days(k, 30, 10 * k, 99, k % 3);
        x.cost(k % 4);
        x.swap(k % 4, k);
        x.fits(k % 4);
        x.judge(k % 4, k % 2);
        x.stands(100 * k, k % 4);
        x.best(k);
        x.lend(10, 11, k + 1);
        x.restore(k % 3);
    }

    private static void smallMill(LightestSack x) {
        CHECK.due("the small mill", Check.mill(x, "sack 30 of 0 at 0;sack 29 of 1 at 1 sort 1;"
                + "sack 28 of 2 at 2;sack 27 of 3 at 3;sack 26 of 4 at 4;clean 5;fee 1;"), 7);
    }

    private static void askSmall(LightestSack x) {
        x.best(-1);
        x.gap();
        x.settle(3);
        x.whole();
    }

    private static RoomTest of(Object root) throws IllegalAccessException {
        RoomTest room = new RoomTest();
        Set<Object> seen = Collections.newSetFromMap(new IdentityHashMap<>());
        Deque<Object> left = new ArrayDeque<>();
        seen.add(root);
        left.add(root);
        while (!left.isEmpty()) {
            Object here = left.remove();
            room.things++;
            if (here.getClass().isArray()) {
                room.walkArray(here, seen, left);
            } else {
                room.walkFields(here, seen, left);
            }
        }
        return room;
    }

    private void walkArray(Object array, Set<Object> seen, Deque<Object> left) {
        int many = Array.getLength(array);
        elements += many;
        for (int i = 0; i < many && !array.getClass().getComponentType().isPrimitive(); i++) {
            meet(Array.get(array, i), seen, left);
        }
    }

    private void walkFields(Object here, Set<Object> seen, Deque<Object> left)
            throws IllegalAccessException {
        for (Field f : here.getClass().getDeclaredFields()) {
            if (!Modifier.isStatic(f.getModifiers())) {
                elements++;
                f.setAccessible(true);
                if (!f.getType().isPrimitive()) {
                    meet(f.get(here), seen, left);
                }
            }
        }
    }

    private static void meet(Object there, Set<Object> seen, Deque<Object> left) {
        if (there != null && seen.add(there)) {
            left.add(there);
        }
    }
}
