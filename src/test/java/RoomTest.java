import java.lang.reflect.Array;
import java.lang.reflect.Field;
import java.lang.reflect.Modifier;
import java.util.ArrayDeque;
import java.util.Deque;
import java.util.IdentityHashMap;
import java.util.Map;

/** What an object is made of is little, and calls don't add to it (that they make nothing: LanguageTest, rule 12). */
public final class RoomTest {
    private static final Check CHECK = new Check();

    public static void main(String[] args) throws Exception {
        CoverTwo x = Check.told("wall wide 8 high 4 law 1 seen;bill a plain wide 2 high 2 text abc"
            + ";bill b wording wide 1 high 1 text b;bill c torn wide 1 high 2 text c"
            + ";rival p sheets 20;word ab;word bb;founder a at 0,0");
        long[] fresh = count(x);
        CHECK.due("an object is made of " + fresh[0] + " objects", fresh[0] < 200, true);
        CHECK.due("an object has " + fresh[1] + " fields and elements", fresh[1] < 4000, true);
        work(x);
        long[] used = count(x);
        CHECK.due("behind calls " + used[0] + " objects", used[0] <= fresh[0], true);
        CHECK.due("behind calls " + used[1] + " fields and elements", used[1] <= fresh[1], true);
        CHECK.end();
    }

    /** How many objects can be reached from one, and how many fields and elements they have. */
    private static long[] count(Object root) throws IllegalAccessException {
        Map<Object, Boolean> met = new IdentityHashMap<>();
        Deque<Object> open = new ArrayDeque<>();
        open.add(root);
        long cells = 0;
        while (!open.isEmpty()) {
            Object one = open.remove();
            if (met.put(one, true) != null) {
                continue;
            }
            cells += one.getClass().isArray() ? openArray(one, open) : openFields(one, open);
        }
        return new long[] {met.size(), cells};
    }

    private static long openArray(Object array, Deque<Object> open) {
        int length = Array.getLength(array);
        for (int i = 0; i < length && !array.getClass().getComponentType().isPrimitive(); i++) {
            open.add(Array.get(array, i));
        }
        return length;
    }

    private static long openFields(Object one, Deque<Object> open) throws IllegalAccessException {
        long fields = 0;
        for (Field field : one.getClass().getDeclaredFields()) {
            if (!Modifier.isStatic(field.getModifiers())) {
                fields++;
                field.setAccessible(true);
                if (!field.getType().isPrimitive() && field.get(one) != null) {
                    open.add(field.get(one));
                }
            }
        }
        return fields;
    }

    private static void work(CoverTwo x) {
        x.wall(0);
        x.paste(0, 1, 0, 0);
        x.paste(0, 0, 1, 0);
        x.days(3);
        x.mark();
        for (int d = 1; d <= 4; d++) {
            x.far(d);
            x.shortest(d);
            x.wins(d);
            x.close(0, d);
            x.life(d, true);
            x.life(d, false);
        }
        for (int b = 0; b < 3; b++) {
            x.best(b);
            x.makes(b);
            x.places(b);
            x.table(b, 1, true);
        }
        x.orders();
        x.ahead(1, 2);
        x.letter(1, 1);
        x.reads(0);
        x.tear(1);
        x.undo();
        x.scrape();
        x.back(0);
    }
}
