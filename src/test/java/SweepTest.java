import java.util.ArrayList;
import java.util.List;

/**
 * Every call with every mix of numbers at the edges, in states from nothing to full, compared with the plain model:
 * so of several refusals the first one is answered, and no call throws.
 */
public final class SweepTest {
    private static final Due DUE = new Due("SweepTest");
    private static final int MIN = Integer.MIN_VALUE, MAX = Integer.MAX_VALUE;
    private static final String[] STATES = {"nothing", "just a house", "some of all", "all that there may be"};
    private static final int[] ALONE = {
        MIN, -129, -101, -10, -9, -4, -3, -2, -1, 0, 1, 2, 3, 4, 5, 6, 7, 8, 9, 10, 11, 12, 13, 14, 15, 16, 17, 19, 20,
        21, 31, 32, 33, 63, 64, 98, 99, 100, 101, 127, 128, 160, 199, 200, 201, 254, 255, 256, 257, 32768, 65536, MAX,
    };
    private static final int[] OF_TWO = {
        MIN, -1, 0, 1, 2, 3, 4, 5, 6, 7, 8, 9, 10, 12, 13, 14, 15, 16, 20, 21, 31, 32, 99, 100, 200, 201, 255, 256, MAX,
    };
    private static final int[] OF_THREE = {MIN, -1, 0, 1, 2, 3, 4, 5, 6, 7, 8, 20, 21, 99, 100, 101, 255, MAX};
    private static final int[] OF_FOUR = {MIN, -1, 0, 1, 2, 3, 4, 7, 33, 34, MAX};
    private static final int[] OF_FIVE = {-1, 0, 2, 3, 4, 7, 8, MAX};
    private static final int[] OF_SIX = {-1, 0, 1, 2, 3, 7};
    private static final int[][] EDGES = {{}, ALONE, OF_TWO, OF_THREE, OF_FOUR, OF_FIVE, OF_SIX};

    private static void write(Pair pair, int sheet, int lane, int... values) {
        pair.ask("sheet", sheet, lane, values.length);
        for (int i = 0; i < values.length; i++) {
            pair.ask("put", sheet, i, values[i]);
        }
    }

    private static void tellHouse(Pair pair, String text) {
        write(pair, 3, 0, text.chars().toArray());
        pair.ask("house", 3, 0, 0, text.length());
    }

    private static void lay(Pair pair, int kind, int fuse, int... stops) {
        write(pair, 2, 2, stops);
        pair.ask("way", kind, fuse, 2, 2, 0, stops.length);
    }

    private static Pair made(String state) {
        Pair pair = new Pair(DUE, state);
        switch (state) {
            case "just a house":
                tellHouse(pair, Lamps.FIVE);
                break;
            case "some of all":
                some(pair);
                break;
            case "all that there may be":
                full(pair);
                break;
            default:
        }
        return pair;
    }

    private static void some(Pair pair) {
        tellHouse(pair, Lamps.FIVE);
        int[][] points = {{1, 5, 0}, {3, 7, 0}, {4, 20, 1}, {2, 1, 1}};
        for (int[] p : points) {
            pair.ask("point", p[0], p[1], p[2]);
        }
        lay(pair, 1, 9, 0, 1);
        lay(pair, 2, 4, 3);
        pair.ask("away", 0);
        lay(pair, 0, 12, 1, 0);
        pair.ask("reading", 3, 5);
        pair.ask("shut", 2, true);
        pair.ask("box", 1);
        write(pair, 1, 1, 2, 4, 2, -1);
        write(pair, 2, 2, 2, 1, 2, 9, -1, 0, 2);
    }

    private static void full(Pair pair) {
        tellHouse(pair, "h3;b0;011d1;122;011");
        for (int p = 0; p < 8; p++) {
            pair.ask("point", p % 3, 20 - p, p % 6);
        }
        for (int way = 0; way < 6; way++) {
            lay(pair, way % 3, 10 + way, way);
        }
        pair.ask("away", 5);
        for (int k = 0; k < 12; k++) {
            pair.ask("reading", 255, 72);
        }
        write(pair, 0, 1, 6, 7, 5, 0, 6);
        write(pair, 1, 1, 0, 1);
        write(pair, 2, 2, 6, 7, 8, 6, 5, 0, 7);
    }

    private static void mix(String call, Class<?>[] types, List<Object> ahead, List<Object[]> found) {
        if (ahead.size() == types.length) {
            found.add(ahead.toArray());
            return;
        }
        List<Object> next = new ArrayList<>(ahead);
        next.add(null);
        if (types[ahead.size()] == boolean.class) {
            for (boolean is : new boolean[] {false, true}) {
                next.set(ahead.size(), is);
                mix(call, types, next, found);
            }
            return;
        }
        int ints = 0;
        for (Class<?> type : types) {
            ints += type == int.class ? 1 : 0;
        }
        for (int v : EDGES[ints]) {
            next.set(ahead.size(), v);
            mix(call, types, next, found);
        }
    }

    /** An object is asked to its last call, then another one is made alike. */
    private static void sweep(String state, String call) {
        List<Object[]> all = new ArrayList<>();
        mix(call, Pair.parametersOf(call), new ArrayList<>(), all);
        Pair pair = made(state);
        for (Object[] given : all) {
            if (!pair.hasCallsLeft(2)) {
                pair = made(state);
            }
            pair.ask(call, given);
            pair.ask("fault");
        }
    }

    public static void main(String[] args) {
        String[] calls = {
            "house", "ofRun", "shut", "run", "along", "box", "point", "ofPoint", "load", "way", "away", "ofWay",
            "cable", "carries", "drop", "tooMuch", "least", "order", "plan", "on", "best", "costs", "cores", "door",
            "reading", "back", "fits", "next", "sheet", "lose", "put", "cell", "copy", "tell", "label", "as", "trace",
            "many",
        };
        for (String state : STATES) {
            for (String call : calls) {
                sweep(state, call);
            }
        }
        DUE.end();
    }
}
