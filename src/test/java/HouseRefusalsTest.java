/** Promises 2 to 7: each refusal and each fault of each call, the first of several, and that it changes nothing. */
public final class HouseRefusalsTest {
    private static final Due DUE = new Due("HouseRefusalsTest");
    private static final int UNKNOWN = LampWays.UNKNOWN, OUTSIDE = LampWays.OUTSIDE;
    private static final int MIN = Integer.MIN_VALUE, MAX = Integer.MAX_VALUE;
    private static final int[] NO_SHEETS = {-1, 4, MIN, MAX};
    private static final int[] NO_LANES = {-1, 3, MIN, MAX};
    private static final int[] NO_RUNS = {-1, 6, 14, MIN, MAX};
    private static final int[] NO_PLACES = {-1, 5, 8, MIN, MAX};
    private static final Twins SOME = new Twins(DUE, Twins::some);
    private static final Twins FRESH = new Twins(DUE, LampWays::new);

    /** Promise 2: "UNKNOWN". */
    private static void houseOfNoSheet() {
        for (int k : NO_SHEETS) {
            SOME.faulty("2 house, sheet " + k, x -> x.house(k, 0, 0, 33), UNKNOWN, 0);
            SOME.faulty("2 house, sheet " + k + " and all else", x -> x.house(k, 3, -1, -1), UNKNOWN, 0);
        }
    }

    /** Promise 2: "OUTSIDE: lane". */
    private static void houseOfNoLane() {
        for (int lane : NO_LANES) {
            SOME.faulty("2 house, lane " + lane, x -> x.house(3, lane, 0, 33), OUTSIDE, 0);
            SOME.faulty("2 house, lane " + lane + " of nothing", x -> x.house(0, lane, 0, 0), OUTSIDE, 0);
            SOME.faulty("2 house, lane " + lane + " and all else", x -> x.house(3, lane, -1, -1), OUTSIDE, 0);
        }
    }

    /** Promise 2: "CAST (nothing is no CAST); NULL". */
    private static void houseOfAnotherLane() {
        for (int k = 1; k <= 3; k++) {
            int sheet = k;
            int its = k == 3 ? 0 : k;
            for (int t = 1; t <= 2; t++) {
                int lane = (its + t) % 3;
                SOME.faulty("2 house, sheet " + k + " as " + lane, x -> x.house(sheet, lane, 0, 1), -12, 2);
                SOME.faulty("2 house, cast ahead of size", x -> x.house(sheet, lane, 0, -1), -12, 2);
                SOME.faulty("2 house, cast ahead of index", x -> x.house(sheet, lane, -1, 1), -12, 2);
            }
        }
        for (int t = 0; t <= 2; t++) {
            int lane = t;
            SOME.faulty("2 house, nothing as " + lane, x -> x.house(0, lane, 0, 0), -11, 1);
            SOME.faulty("2 house, null ahead of size", x -> x.house(0, lane, 0, -1), -11, 1);
            SOME.faulty("2 house, null ahead of index", x -> x.house(0, lane, 1, 1), -11, 1);
            FRESH.faulty("2 house, nothing at first", x -> x.house(3, lane, 0, 0), -11, 1);
        }
    }

    /** Promise 2: "SIZE: n below 0". */
    private static void houseOfSizeBelowNothing() {
        SOME.faulty("2 house, n -1", x -> x.house(3, 0, 0, -1), -14, 4);
        SOME.faulty("2 house, n least", x -> x.house(3, 0, 0, MIN), -14, 4);
        SOME.faulty("2 house, size ahead of index", x -> x.house(3, 0, 34, -1), -14, 4);
        SOME.faulty("2 house, size ahead of index", x -> x.house(3, 0, -1, -1), -14, 4);
    }

    /** Promise 2: "INDEX", also "where i is not 0 .. how many there are, if none of them is taken, too". */
    private static void houseOfCellsThatAreNotThere() {
        int[][] cells = {
            {-1, 0}, {-1, 1}, {-1, 33}, {MIN, 0}, {MIN, MAX}, {0, 34}, {0, MAX}, {1, 33}, {32, 2}, {33, 1}, {34, 0},
            {34, 1}, {100, 0}, {MAX, 0}, {MAX, 1}, {MAX, MAX}, {1, MAX},
        };
        for (int[] c : cells) {
            SOME.faulty("2 house, cells " + c[0] + ", " + c[1], x -> x.house(3, 0, c[0], c[1]), -13, 3);
        }
        for (int k = 1; k <= 2; k++) {
            int sheet = k;
            int length = k == 1 ? 4 : 7;
            SOME.faulty("2 house, none past the end", x -> x.house(sheet, sheet, length + 1, 0), -13, 3);
            SOME.faulty("2 house, one past the end", x -> x.house(sheet, sheet, 0, length + 1), -13, 3);
        }
    }

    /** Promise 2: "-100 less it": of a TEXT with a FIRST FAULT nothing is taken. */
    private static void houseOfFaultyText() {
        SOME.faulty("2 house, none from the first on", x -> x.house(3, 0, 0, 0), -100, 0);
        SOME.faulty("2 house, none at the end", x -> x.house(3, 0, 33, 0), -100, 0);
        SOME.faulty("2 house, just h", x -> x.house(3, 0, 0, 1), -101, 0);
        SOME.faulty("2 house, no run yet", x -> x.house(3, 0, 0, 5), -105, 0);
        SOME.faulty("2 house, a run begun", x -> x.house(3, 0, 0, 8), -108, 0);
        SOME.faulty("2 house, without its h", x -> x.house(3, 0, 1, 32), -100, 0);
        SOME.faulty("2 house, of points", x -> x.house(2, 2, 0, 7), -100, 0);
    }

    /** Promise 3: "UNKNOWN; OUTSIDE". */
    private static void ofRun() {
        for (int k : NO_RUNS) {
            SOME.refused("3 ofRun " + k, x -> x.ofRun(k, 0), UNKNOWN);
            SOME.refused("3 ofRun " + k + ", unknown first", x -> x.ofRun(k, 5), UNKNOWN);
        }
        for (int what : new int[] {-1, 5, MIN, MAX}) {
            SOME.refused("3 ofRun, what " + what, x -> x.ofRun(0, what), OUTSIDE);
            SOME.refused("3 ofRun of the last, what " + what, x -> x.ofRun(5, what), OUTSIDE);
        }
        FRESH.refused("3 ofRun without a house", x -> x.ofRun(0, 0), UNKNOWN);
    }

    /** Promise 4: "UNKNOWN". */
    private static void shut() {
        for (int k : NO_RUNS) {
            SOME.refused("4 shut " + k, x -> x.shut(k, true), UNKNOWN);
            SOME.refused("4 open " + k, x -> x.shut(k, false), UNKNOWN);
        }
        FRESH.refused("4 shut without a house", x -> x.shut(0, true), UNKNOWN);
        FRESH.refused("4 open without a house", x -> x.shut(0, false), UNKNOWN);
    }

    /** Promise 5: "UNKNOWN: PLACES; OUTSIDE". */
    private static void run() {
        for (int c : NO_PLACES) {
            SOME.refused("5 run from " + c, x -> x.run(c, 0, 0), UNKNOWN);
            SOME.refused("5 run to " + c, x -> x.run(0, c, 0), UNKNOWN);
            SOME.refused("5 run from and to " + c, x -> x.run(c, c, 0), UNKNOWN);
            SOME.refused("5 run from " + c + ", unknown first", x -> x.run(c, 0, 3), UNKNOWN);
            SOME.refused("5 run to " + c + ", unknown first", x -> x.run(0, c, -1), UNKNOWN);
        }
        for (int what : new int[] {-1, 3, MIN, MAX}) {
            SOME.refused("5 run, what " + what, x -> x.run(0, 4, what), OUTSIDE);
            SOME.refused("5 run to the same place, what " + what, x -> x.run(4, 4, what), OUTSIDE);
        }
        FRESH.refused("5 run without a house", x -> x.run(0, 0, 0), UNKNOWN);
    }

    /** Promise 6: "UNKNOWN: PLACES; OUTSIDE: k below 0". */
    private static void along() {
        for (int c : NO_PLACES) {
            SOME.refused("6 along from " + c, x -> x.along(c, 0, 0), UNKNOWN);
            SOME.refused("6 along to " + c, x -> x.along(0, c, 0), UNKNOWN);
            SOME.refused("6 along from " + c + ", unknown first", x -> x.along(c, 0, -1), UNKNOWN);
            SOME.refused("6 along to " + c + ", unknown first", x -> x.along(0, c, -1), UNKNOWN);
        }
        for (int k : new int[] {-1, MIN}) {
            SOME.refused("6 along, k " + k, x -> x.along(0, 4, k), OUTSIDE);
            SOME.refused("6 along to the same place, k " + k, x -> x.along(4, 4, k), OUTSIDE);
        }
        FRESH.refused("6 along without a house", x -> x.along(0, 0, 0), UNKNOWN);
    }

    /** Promise 7: "UNKNOWN". */
    private static void box() {
        for (int c : NO_PLACES) {
            SOME.refused("7 box " + c, x -> x.box(c), UNKNOWN);
        }
        FRESH.refused("7 box without a house", x -> x.box(0), UNKNOWN);
    }

    public static void main(String[] args) {
        houseOfNoSheet();
        houseOfNoLane();
        houseOfAnotherLane();
        houseOfSizeBelowNothing();
        houseOfCellsThatAreNotThere();
        houseOfFaultyText();
        ofRun();
        shut();
        run();
        along();
        box();
        DUE.end();
    }
}
