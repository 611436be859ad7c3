/** Promises 18 to 25: each refusal of each call, the first of several, and that it changes nothing. */
public final class PlansRefusalsTest {
    private static final Due DUE = new Due("PlansRefusalsTest");
    private static final int UNKNOWN = LampWays.UNKNOWN, OUTSIDE = LampWays.OUTSIDE, STATE = LampWays.STATE,
            NONE = LampWays.NONE;
    private static final int MIN = Integer.MIN_VALUE, MAX = Integer.MAX_VALUE;
    /** There are points 0 .. 4: the sets are 1 .. 31. */
    private static final int[] NO_SETS = {0, 32, 33, 63, 255, 256, -1, MIN, MAX};
    private static final int[] NO_KINDS = {-1, 2, MIN, MAX};
    private static final int[] NO_WS = {0, 4, -1, MIN, MAX};
    private static final int[] NO_FS = {0, 100, -1, MIN, MAX};
    private static final int[] NO_RUNS = {-1, 6, 14, MIN, MAX};
    private static final int[] NO_POINTS = {-1, 5, 8, MIN, MAX};
    private static final int[] NO_PLACES = {-1, 5, 8, MIN, MAX};
    /** There are places 0 .. 4: none, five of them, bits of none alone and beside others. */
    private static final int[] NO_DOORS = {0, 31, 32, 33, 255, 256, -1, MIN, MAX};
    private static final Twins SOME = new Twins(DUE, Twins::some);
    private static final Twins PARTED = new Twins(DUE, Twins::parted);
    private static final Twins UNLIT = new Twins(DUE, Twins::unlit);
    private static final Twins FRESH = new Twins(DUE, LampWays::new);

    /** Promise 18: "OUTSIDE: set (empty, a bit of none), kind (0, 1)". */
    private static void least() {
        for (int set : NO_SETS) {
            SOME.refused("18 least of " + set, x -> x.least(set, 0), OUTSIDE);
            SOME.refused("18 least of " + set + ", a ring", x -> x.least(set, 1), OUTSIDE);
        }
        for (int kind : NO_KINDS) {
            SOME.refused("18 least by kind " + kind, x -> x.least(1, kind), OUTSIDE);
            SOME.refused("18 least of all by kind " + kind, x -> x.least(31, kind), OUTSIDE);
        }
        for (int set = 0; set <= 1; set++) {
            int asked = set;
            UNLIT.refused("18 least without points", x -> x.least(asked, 0), OUTSIDE);
            FRESH.refused("18 least without a house", x -> x.least(asked, 0), OUTSIDE);
        }
    }

    /** Promise 19: "OUTSIDE: as least(); UNKNOWN: k is not 0 .. 7". */
    private static void order() {
        for (int set : NO_SETS) {
            SOME.refused("19 order of " + set, x -> x.order(set, 0, 0), OUTSIDE);
            SOME.refused("19 order of " + set + ", outside first", x -> x.order(set, 0, 8), OUTSIDE);
        }
        for (int kind : NO_KINDS) {
            SOME.refused("19 order by kind " + kind, x -> x.order(1, kind, 0), OUTSIDE);
            SOME.refused("19 order by kind " + kind + ", outside first", x -> x.order(1, kind, -1), OUTSIDE);
        }
        for (int k : new int[] {-1, 8, MIN, MAX}) {
            SOME.refused("19 order, k " + k, x -> x.order(31, 0, k), UNKNOWN);
            SOME.refused("19 order of a ring, k " + k, x -> x.order(1, 1, k), UNKNOWN);
            PARTED.refused("19 order, k " + k + " ahead of none", x -> x.order(3, 0, k), UNKNOWN);
        }
        UNLIT.refused("19 order without points", x -> x.order(1, 0, 8), OUTSIDE);
        FRESH.refused("19 order without a house", x -> x.order(1, 0, 8), OUTSIDE);
    }

    /** Promises 20, 22: "OUTSIDE: w, f (1 .. 99); STATE: there are no POINTS". */
    private static void planAndBest() {
        for (int t = 0; t <= 1; t++) {
            boolean dark = t == 1;
            for (int w : NO_WS) {
                SOME.refused("20 plan by " + w, x -> x.plan(w, 9, dark), OUTSIDE);
                SOME.refused("22 best by " + w, x -> x.best(w, 9, dark), OUTSIDE);
                UNLIT.refused("20 plan by " + w + " ahead of state", x -> x.plan(w, 9, dark), OUTSIDE);
                UNLIT.refused("22 best by " + w + " ahead of state", x -> x.best(w, 9, dark), OUTSIDE);
            }
            for (int f : NO_FS) {
                SOME.refused("20 plan, f " + f, x -> x.plan(3, f, dark), OUTSIDE);
                SOME.refused("22 best, f " + f, x -> x.best(3, f, dark), OUTSIDE);
                UNLIT.refused("20 plan, f " + f + " ahead of state", x -> x.plan(3, f, dark), OUTSIDE);
                UNLIT.refused("22 best, f " + f + " ahead of state", x -> x.best(3, f, dark), OUTSIDE);
            }
            UNLIT.refused("20 plan without points", x -> x.plan(1, 1, dark), STATE);
            UNLIT.refused("20 plan without points", x -> x.plan(3, 99, dark), STATE);
            UNLIT.refused("22 best without points", x -> x.best(1, 1, dark), STATE);
            UNLIT.refused("22 best without points", x -> x.best(3, 99, dark), STATE);
            FRESH.refused("20 plan without a house", x -> x.plan(1, 1, dark), STATE);
            FRESH.refused("22 best without a house", x -> x.best(1, 1, dark), STATE);
        }
    }

    /** Promise 21: "UNKNOWN: POINT; OUTSIDE: w, f". */
    private static void on() {
        for (int p : NO_POINTS) {
            SOME.refused("21 on of point " + p, x -> x.on(3, 99, false, p), UNKNOWN);
            SOME.refused("21 on of point " + p + ", unknown first", x -> x.on(0, 0, true, p), UNKNOWN);
        }
        for (int w : NO_WS) {
            SOME.refused("21 on by " + w, x -> x.on(w, 99, false, 0), OUTSIDE);
        }
        for (int f : NO_FS) {
            SOME.refused("21 on, f " + f, x -> x.on(3, f, true, 4), OUTSIDE);
        }
        UNLIT.refused("21 on without points", x -> x.on(1, 1, false, 0), UNKNOWN);
        FRESH.refused("21 on without a house", x -> x.on(1, 1, false, 0), UNKNOWN);
    }

    /** Promise 23: "UNKNOWN: RUN; OUTSIDE, STATE as plan()". */
    private static void costs() {
        for (int k : NO_RUNS) {
            SOME.refused("23 costs of run " + k, x -> x.costs(k, 3, 99, false), UNKNOWN);
            SOME.refused("23 costs of run " + k + ", unknown first", x -> x.costs(k, 0, 100, false), UNKNOWN);
            UNLIT.refused("23 costs of run " + k + " ahead of state", x -> x.costs(k, 1, 1, true), UNKNOWN);
        }
        for (int w : NO_WS) {
            SOME.refused("23 costs by " + w, x -> x.costs(0, w, 99, false), OUTSIDE);
            UNLIT.refused("23 costs by " + w + " ahead of state", x -> x.costs(0, w, 99, false), OUTSIDE);
        }
        for (int f : NO_FS) {
            SOME.refused("23 costs, f " + f, x -> x.costs(5, 3, f, true), OUTSIDE);
            UNLIT.refused("23 costs, f " + f + " ahead of state", x -> x.costs(5, 3, f, true), OUTSIDE);
        }
        UNLIT.refused("23 costs without points", x -> x.costs(0, 1, 1, false), STATE);
        UNLIT.refused("23 costs without points", x -> x.costs(5, 3, 99, true), STATE);
        FRESH.refused("23 costs without a house", x -> x.costs(0, 1, 1, false), UNKNOWN);
    }

    /** Promise 24: "UNKNOWN: PLACE; OUTSIDE: set (1 to 4 of those there are)". */
    private static void cores() {
        for (int c : NO_PLACES) {
            SOME.refused("24 cores at " + c, x -> x.cores(c, 1), UNKNOWN);
            SOME.refused("24 cores at " + c + ", unknown first", x -> x.cores(c, 0), UNKNOWN);
        }
        for (int set : NO_DOORS) {
            SOME.refused("24 cores from " + set, x -> x.cores(0, set), OUTSIDE);
            PARTED.refused("24 cores from " + set + " ahead of none", x -> x.cores(4, set), OUTSIDE);
        }
        FRESH.refused("24 cores without a house", x -> x.cores(0, 0), UNKNOWN);
    }

    /** Promise 25: "UNKNOWN: PLACE; OUTSIDE: set; UNKNOWN: k is not 0 .. 3". */
    private static void door() {
        for (int c : NO_PLACES) {
            SOME.refused("25 door at " + c, x -> x.door(c, 1, 0), UNKNOWN);
            SOME.refused("25 door at " + c + ", unknown first", x -> x.door(c, 0, 0), UNKNOWN);
        }
        for (int set : NO_DOORS) {
            SOME.refused("25 door from " + set, x -> x.door(0, set, 0), OUTSIDE);
            SOME.refused("25 door from " + set + ", outside ahead of k", x -> x.door(0, set, 4), OUTSIDE);
        }
        for (int k : new int[] {-1, 4, MIN, MAX}) {
            SOME.refused("25 door, k " + k, x -> x.door(0, 15, k), UNKNOWN);
            PARTED.refused("25 door, k " + k + " ahead of none", x -> x.door(4, 1, k), UNKNOWN);
        }
        FRESH.refused("25 door without a house", x -> x.door(0, 0, 0), UNKNOWN);
    }

    /** Questions that are answered, also with NONE, leave all as it is, too: the box and shut runs above all. */
    private static void answeredLeavesAll() {
        SOME.refused("18 least of all", x -> x.least(31, 1), 18);
        SOME.refused("19 order of all", x -> x.order(31, 1, 7), NONE);
        SOME.refused("20 plan", x -> x.plan(1, 1, true), NONE);
        SOME.refused("21 on", x -> x.on(1, 1, true, 4), NONE);
        SOME.refused("22 best", x -> x.best(1, 1, true), NONE);
        SOME.refused("22 best of some", x -> x.best(3, 99, false), 1);
        SOME.refused("23 costs of a shut one", x -> x.costs(2, 3, 99, false), 0);
        SOME.refused("23 costs of an open one", x -> x.costs(5, 3, 99, false), 5);
        SOME.refused("23 costs, none", x -> x.costs(1, 3, 99, false), NONE);
        PARTED.refused("24 cores, none", x -> x.cores(4, 1), NONE);
        PARTED.refused("25 door, none", x -> x.door(4, 1, 0), NONE);
    }

    public static void main(String[] args) {
        least();
        order();
        planAndBest();
        on();
        costs();
        cores();
        door();
        answeredLeavesAll();
        DUE.end();
    }
}
