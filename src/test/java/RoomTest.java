import java.lang.reflect.Array;
import java.lang.reflect.Field;
import java.lang.reflect.Modifier;
import java.util.IdentityHashMap;
import java.util.Map;

/**
 * All calls of one run live in one room. What an object holds is counted: its rows are made once and used again, a WAY
 * alone is made later. (LanguageTest sees that nothing is made and dropped in between.)
 */
public final class RoomTest {
    private static final Due DUE = new Due("RoomTest");
    private static final int MOST_OBJECTS = 60, MOST_ELEMENTS = 5000, MOST_CALLS = 512;

    /** Objects and arrays that can be come to from one, each with how many fields or elements it has. */
    private static Map<Object, Integer> reached(Object from) {
        Map<Object, Integer> found = new IdentityHashMap<>();
        reach(from, found);
        return found;
    }

    private static void reach(Object at, Map<Object, Integer> found) {
        if (at == null || found.containsKey(at)) {
            return;
        }
        if (at.getClass().isArray()) {
            found.put(at, Array.getLength(at));
            for (int i = 0; i < Array.getLength(at) && !at.getClass().getComponentType().isPrimitive(); i++) {
                reach(Array.get(at, i), found);
            }
            return;
        }
        found.put(at, 0);
        for (Class<?> type = at.getClass(); type != Object.class; type = type.getSuperclass()) {
            for (Field field : type.getDeclaredFields()) {
                if (!Modifier.isStatic(field.getModifiers())) {
                    found.merge(at, 1, Integer::sum);
                    reachField(at, field, found);
                }
            }
        }
    }

    private static void reachField(Object at, Field field, Map<Object, Integer> found) {
        if (field.getType().isPrimitive()) {
            return;
        }
        try {
            field.setAccessible(true);
            reach(field.get(at), found);
        } catch (IllegalAccessException e) {
            DUE.holds("can be looked at: " + field, false);
        }
    }

    private static int elements(Map<Object, Integer> found) {
        return found.values().stream().mapToInt(Integer::intValue).sum();
    }

    private static void few(String label, LampWays x) {
        Map<Object, Integer> all = reached(x);
        DUE.holds(label + ", objects: " + all.size(), all.size() > 10 && all.size() <= MOST_OBJECTS);
        DUE.holds(label + ", elements: " + elements(all), elements(all) > 400 && elements(all) <= MOST_ELEMENTS);
    }

    /** Every call of an object that makes the most: ways laid and taken away, sheets anew, houses anew. */
    private static void tillTheLastCall() {
        LampWays x = new LampWays();
        Map<Object, Integer> first = reached(x);
        String text = "h2;b0;011";
        int calls = 0;
        x.sheet(0, 0, 9);
        for (int i = 0; i < 9; i++) {
            x.put(0, i, text.charAt(i));
        }
        calls += 10;
        while (calls + 20 <= MOST_CALLS) {
            x.house(0, 0, 0, 9);
            x.point(1, 1, 0);
            x.sheet(1, 2, 100);
            for (int way = 0; way < 6; way++) {
                DUE.is("11 a way, call " + calls, x.way(way % 3, 9, 1, 2, 0, 1), way);
                x.away(way);
            }
            x.plan(3, 99, true);
            x.best(3, 99, true);
            x.cores(1, 3);
            x.fits(0);
            calls += 19;
        }
        Map<Object, Integer> last = reached(x);
        DUE.is("objects behind the last call", last.size(), first.size());
        DUE.is("elements behind the last call", elements(last), elements(first));
        for (Object made : last.keySet()) {
            DUE.holds("made by the constructor: " + made.getClass(), first.containsKey(made));
        }
    }

    private static void waysThatAreThere() {
        LampWays x = Lamps.lit("h2;b0;011", 1, 1, 1, 1, 1, 1, 1, 1);
        int ahead = reached(x).size();
        for (int way = 0; way < 6; way++) {
            Lamps.lay(x, way % 3, 9, way);
            DUE.is("11 a way and its row", reached(x).size(), ahead + 2 * (way + 1));
        }
        few("with six ways", x);
    }

    public static void main(String[] args) {
        few("1 a new object", new LampWays());
        few("with some of all", Twins.some());
        few("with all that there may be", Twins.full());
        tillTheLastCall();
        waysThatAreThere();
        DUE.end();
    }
}
