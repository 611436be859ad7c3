/** Promises 8 to 17: each refusal and each fault of each call, the first of several, and that it changes nothing. */
public final class WaysRefusalsTest {
    private static final Due DUE = new Due("WaysRefusalsTest");
    private static final int UNKNOWN = LampWays.UNKNOWN, OUTSIDE = LampWays.OUTSIDE, STATE = LampWays.STATE,
            FULL = LampWays.FULL;
    private static final long LOST = LampWays.LOST;
    private static final int MIN = Integer.MIN_VALUE, MAX = Integer.MAX_VALUE;
    private static final int[] NO_SHEETS = {-1, 4, MIN, MAX};
    private static final int[] NO_LANES = {-1, 3, MIN, MAX};
    private static final int[] NO_PLACES = {-1, 5, 8, MIN, MAX};
    private static final int[] NO_POINTS = {-1, 5, 8, MIN, MAX};
    private static final int[] NO_LOADS = {0, 21, -1, MIN, MAX};
    private static final int[] NO_ROOMS = {-1, 6, MIN, MAX};
    private static final int[] NO_FUSES = {0, 100, -1, MIN, MAX};
    private static final int[] NO_KINDS = {-1, 3, MIN, MAX};
    /** Of these 1 was taken away, 3 has not come yet. */
    private static final int[] NO_WAYS = {-1, 1, 3, 6, MIN, MAX};
    private static final int[] NO_HALVES = {-1, 2, MIN, MAX};
    private static final Twins SOME = new Twins(DUE, Twins::some);
    private static final Twins CROWDED = new Twins(DUE, Twins::full);
    private static final Twins PARTED = new Twins(DUE, Twins::parted);
    private static final Twins FRESH = new Twins(DUE, LampWays::new);

    /** Promise 8: "UNKNOWN: PLACE; OUTSIDE: LOAD, ROOM; FULL". */
    private static void point() {
        for (int c : NO_PLACES) {
            SOME.refused("8 point at " + c, x -> x.point(c, 1, 0), UNKNOWN);
            SOME.refused("8 point at " + c + ", unknown first", x -> x.point(c, 0, 6), UNKNOWN);
        }
        for (int v : NO_LOADS) {
            SOME.refused("8 point of load " + v, x -> x.point(0, v, 0), OUTSIDE);
            CROWDED.refused("8 point of load " + v + " ahead of full", x -> x.point(0, v, 0), OUTSIDE);
        }
        for (int room : NO_ROOMS) {
            SOME.refused("8 point in room " + room, x -> x.point(0, 1, room), OUTSIDE);
            CROWDED.refused("8 point in room " + room + " ahead of full", x -> x.point(0, 1, room), OUTSIDE);
        }
        CROWDED.refused("8 point, unknown ahead of full", x -> x.point(2, 1, 0), UNKNOWN);
        CROWDED.refused("8 a ninth point", x -> x.point(0, 1, 0), FULL);
        CROWDED.refused("8 a ninth point, the greatest", x -> x.point(1, 20, 5), FULL);
        FRESH.refused("8 point without a house", x -> x.point(0, 1, 0), UNKNOWN);
    }

    /** Promise 9: "UNKNOWN; OUTSIDE". */
    private static void ofPoint() {
        for (int p : NO_POINTS) {
            SOME.refused("9 ofPoint " + p, x -> x.ofPoint(p, 0), UNKNOWN);
            SOME.refused("9 ofPoint " + p + ", unknown first", x -> x.ofPoint(p, 4), UNKNOWN);
        }
        for (int what : new int[] {-1, 4, MIN, MAX}) {
            SOME.refused("9 ofPoint, what " + what, x -> x.ofPoint(0, what), OUTSIDE);
            SOME.refused("9 ofPoint of the last, what " + what, x -> x.ofPoint(4, what), OUTSIDE);
        }
        CROWDED.refused("9 ofPoint of a ninth", x -> x.ofPoint(8, 0), UNKNOWN);
        FRESH.refused("9 ofPoint without a house", x -> x.ofPoint(0, 0), UNKNOWN);
    }

    /** Promise 10: "UNKNOWN; OUTSIDE". */
    private static void load() {
        for (int p : NO_POINTS) {
            SOME.refused("10 load of " + p, x -> x.load(p, 1), UNKNOWN);
            SOME.refused("10 load of " + p + ", unknown first", x -> x.load(p, 0), UNKNOWN);
        }
        for (int v : NO_LOADS) {
            SOME.refused("10 load becomes " + v, x -> x.load(0, v), OUTSIDE);
            SOME.refused("10 load of the last becomes " + v, x -> x.load(4, v), OUTSIDE);
        }
        CROWDED.refused("10 load of a ninth", x -> x.load(8, 1), UNKNOWN);
        FRESH.refused("10 load without a house", x -> x.load(0, 1), UNKNOWN);
    }

    /** Promise 11: "UNKNOWN: SHEET; OUTSIDE: kind, FUSE, lane". */
    private static void wayOfNumbersOutside() {
        for (int k : NO_SHEETS) {
            SOME.faulty("11 way, sheet " + k, x -> x.way(0, 9, k, 2, 0, 1), UNKNOWN, 0);
            SOME.faulty("11 way, sheet " + k + " and all else", x -> x.way(3, 0, k, 3, -1, -1), UNKNOWN, 0);
        }
        for (int kind : NO_KINDS) {
            SOME.faulty("11 way, kind " + kind, x -> x.way(kind, 9, 2, 2, 0, 1), OUTSIDE, 0);
            SOME.faulty("11 way, kind " + kind + " ahead of cast", x -> x.way(kind, 9, 2, 0, 0, 1), OUTSIDE, 0);
            SOME.faulty("11 way, kind " + kind + " ahead of null", x -> x.way(kind, 9, 0, 0, 0, 1), OUTSIDE, 0);
        }
        for (int fuse : NO_FUSES) {
            SOME.faulty("11 way, fuse " + fuse, x -> x.way(0, fuse, 2, 2, 0, 1), OUTSIDE, 0);
            SOME.faulty("11 way, fuse " + fuse + " ahead of cast", x -> x.way(0, fuse, 2, 1, 0, 1), OUTSIDE, 0);
            SOME.faulty("11 way, fuse " + fuse + " ahead of size", x -> x.way(0, fuse, 2, 2, 0, -1), OUTSIDE, 0);
        }
        for (int lane : NO_LANES) {
            SOME.faulty("11 way, lane " + lane, x -> x.way(0, 9, 2, lane, 0, 1), OUTSIDE, 0);
            SOME.faulty("11 way, lane " + lane + " of nothing", x -> x.way(0, 9, 0, lane, 0, 1), OUTSIDE, 0);
            SOME.faulty("11 way, lane " + lane + " ahead of index", x -> x.way(0, 9, 2, lane, -1, 1), OUTSIDE, 0);
        }
    }

    /** Promise 11: "CAST; NULL; SIZE; INDEX". */
    private static void wayOfFaults() {
        for (int t = 0; t <= 1; t++) {
            int lane = t;
            SOME.faulty("11 way, ints as " + lane, x -> x.way(0, 9, 2, lane, 0, 1), -12, 2);
            SOME.faulty("11 way, cast ahead of size", x -> x.way(0, 9, 2, lane, 0, -1), -12, 2);
            SOME.faulty("11 way, cast ahead of index", x -> x.way(0, 9, 2, lane, 8, 0), -12, 2);
            SOME.faulty("11 way, cast ahead of how many", x -> x.way(0, 9, 2, lane, 0, 7), -12, 2);
        }
        for (int t = 0; t <= 2; t++) {
            int lane = t;
            SOME.faulty("11 way, nothing as " + lane, x -> x.way(0, 9, 0, lane, 0, 1), -11, 1);
            SOME.faulty("11 way, null ahead of size", x -> x.way(0, 9, 0, lane, 0, -1), -11, 1);
            SOME.faulty("11 way, null ahead of index", x -> x.way(0, 9, 0, lane, -1, 1), -11, 1);
            SOME.faulty("11 way, null ahead of how many", x -> x.way(0, 9, 0, lane, 0, 0), -11, 1);
        }
        SOME.faulty("11 way, n -1", x -> x.way(0, 9, 2, 2, 0, -1), -14, 4);
        SOME.faulty("11 way, n least", x -> x.way(0, 9, 2, 2, 0, MIN), -14, 4);
        SOME.faulty("11 way, size ahead of index", x -> x.way(0, 9, 2, 2, 8, -1), -14, 4);
        int[][] cells = {
            {-1, 0}, {-1, 1}, {-1, 7}, {MIN, 1}, {0, 8}, {1, 7}, {7, 1}, {8, 0}, {8, 1}, {6, 2}, {MAX, 0}, {MAX, MAX},
            {1, MAX}, {0, MAX},
        };
        for (int[] c : cells) {
            SOME.faulty("11 way, cells " + c[0] + ", " + c[1], x -> x.way(0, 9, 2, 2, c[0], c[1]), -13, 3);
        }
    }

    /** Promise 11: "OUTSIDE: n is not 1 .. 6; UNKNOWN: a POINT". */
    private static void wayOfNoPoints() {
        SOME.faulty("11 way of none", x -> x.way(0, 9, 2, 2, 0, 0), OUTSIDE, 0);
        SOME.faulty("11 way of none at the end", x -> x.way(0, 9, 2, 2, 7, 0), OUTSIDE, 0);
        SOME.faulty("11 way of seven", x -> x.way(0, 9, 2, 2, 0, 7), OUTSIDE, 0);
        SOME.faulty("11 way of a point just past the last", x -> x.way(0, 9, 2, 2, 4, 1), UNKNOWN, 0);
        SOME.faulty("11 way of a point below 0", x -> x.way(0, 9, 2, 2, 5, 1), UNKNOWN, 0);
        SOME.faulty("11 way, the last is unknown", x -> x.way(0, 9, 2, 2, 3, 2), UNKNOWN, 0);
        SOME.faulty("11 way, unknown ahead of twice", x -> x.way(0, 9, 2, 2, 0, 6), UNKNOWN, 0);
        for (int v : new int[] {8, 100, MIN, MAX}) {
            Twins odd = new Twins(DUE, () -> {
                LampWays x = Twins.some();
                x.put(2, 0, v);
                return x;
            });
            odd.faulty("11 way of point " + v, x -> x.way(0, 9, 2, 2, 0, 1), UNKNOWN, 0);
        }
        FRESH.faulty("11 way without a house", x -> x.way(0, 9, 0, 0, 0, 1), -11, 1);
    }

    /** Promise 11: "STATE: one is told twice, or is of another WAY; FULL". */
    private static void wayOfState() {
        SOME.faulty("11 way, one twice", x -> x.way(0, 9, 2, 2, 0, 3), STATE, 0);
        SOME.faulty("11 way, one of another way", x -> x.way(0, 9, 2, 2, 3, 1), STATE, 0);
        SOME.faulty("11 way, the last of another way", x -> x.way(0, 9, 2, 2, 2, 2), STATE, 0);
        SOME.faulty("11 way, both", x -> x.way(0, 9, 2, 2, 0, 4), STATE, 0);
        CROWDED.faulty("11 a seventh way", x -> x.way(0, 9, 1, 1, 0, 1), FULL, 0);
        CROWDED.faulty("11 a seventh way of two", x -> x.way(2, 99, 1, 1, 0, 2), FULL, 0);
        CROWDED.faulty("11 a seventh way of a point that was freed", x -> x.way(1, 1, 1, 1, 0, 3), FULL, 0);
        CROWDED.faulty("11 way, twice ahead of full", x -> x.way(0, 9, 2, 2, 0, 3), STATE, 0);
        CROWDED.faulty("11 way, another's ahead of full", x -> x.way(0, 9, 1, 1, 0, 4), STATE, 0);
        CROWDED.faulty("11 way, unknown ahead of full", x -> x.way(0, 9, 2, 2, 1, 3), UNKNOWN, 0);
        CROWDED.faulty("11 way, none ahead of full", x -> x.way(0, 9, 1, 1, 0, 0), OUTSIDE, 0);
        CROWDED.faulty("11 way, index ahead of full", x -> x.way(0, 9, 1, 1, 0, 5), -13, 3);
    }

    /** Promises 12, 17: "UNKNOWN". */
    private static void awayAndTooMuch() {
        for (int way : NO_WAYS) {
            SOME.refused("12 away " + way, x -> x.away(way), UNKNOWN);
            SOME.refused("17 tooMuch " + way, x -> x.tooMuch(way), UNKNOWN);
        }
        CROWDED.refused("12 away, the last, once more", x -> x.away(5), UNKNOWN);
        CROWDED.refused("12 away, a seventh", x -> x.away(6), UNKNOWN);
        FRESH.refused("12 away without a house", x -> x.away(0), UNKNOWN);
        FRESH.refused("17 tooMuch without a house", x -> x.tooMuch(0), UNKNOWN);
        for (int way = 0; way <= 1; way++) {
            int over = way;
            PARTED.refused("17 tooMuch, a run is not there", x -> x.tooMuch(over), STATE);
        }
    }

    /** Promise 13: "UNKNOWN; OUTSIDE". */
    private static void ofWay() {
        for (int way : NO_WAYS) {
            SOME.refused("13 ofWay " + way, x -> x.ofWay(way, 0), UNKNOWN);
            SOME.refused("13 ofWay " + way + ", unknown first", x -> x.ofWay(way, 4), UNKNOWN);
        }
        for (int what : new int[] {-1, 4, 9, 12, 15, 16, MIN, MAX}) {
            SOME.refused("13 ofWay, what " + what, x -> x.ofWay(0, what), OUTSIDE);
            SOME.refused("13 ofWay of the last, what " + what, x -> x.ofWay(2, what), OUTSIDE);
        }
        SOME.refused("13 ofWay, a second point of one", x -> x.ofWay(2, 11), OUTSIDE);
        FRESH.refused("13 ofWay without a house", x -> x.ofWay(0, 0), UNKNOWN);
    }

    /** Promise 14: "UNKNOWN; OUTSIDE; STATE: a RUN is not there". */
    private static void cable() {
        for (int way : NO_WAYS) {
            SOME.refused("14 cable " + way, x -> x.cable(way, 0), UNKNOWN);
            SOME.refused("14 cable " + way + ", unknown first", x -> x.cable(way, 2), UNKNOWN);
        }
        for (int what : new int[] {-1, 2, MIN, MAX}) {
            SOME.refused("14 cable, what " + what, x -> x.cable(0, what), OUTSIDE);
            PARTED.refused("14 cable, what " + what + " ahead of state", x -> x.cable(0, what), OUTSIDE);
        }
        for (int t = 0; t <= 1; t++) {
            int what = t;
            PARTED.refused("14 cable, the second run is not there", x -> x.cable(0, what), STATE);
            PARTED.refused("14 cable, no run is there", x -> x.cable(1, what), STATE);
        }
        FRESH.refused("14 cable without a house", x -> x.cable(0, 0), UNKNOWN);
    }

    /** Promise 15: "LOST: UNKNOWN: WAY, PIECE; OUTSIDE; STATE: as cable()". */
    private static void carries() {
        for (int way : NO_WAYS) {
            SOME.refused("15 carries of way " + way, x -> x.carries(way, 0, 0), LOST);
        }
        for (int piece : new int[] {-1, 2, 3, MIN, MAX}) {
            SOME.refused("15 carries, piece " + piece + " of a chain of two", x -> x.carries(0, piece, 0), LOST);
            SOME.refused("15 carries, piece " + piece + " of a ring of one", x -> x.carries(2, piece, 1), LOST);
        }
        for (int which : NO_HALVES) {
            SOME.refused("15 carries, which " + which, x -> x.carries(0, 0, which), LOST);
        }
        for (int t = 0; t <= 1; t++) {
            int which = t;
            PARTED.refused("15 carries, a run behind it is not there", x -> x.carries(0, 0, which), LOST);
            PARTED.refused("15 carries, its run is not there", x -> x.carries(0, 1, which), LOST);
            PARTED.refused("15 carries, no run is there", x -> x.carries(1, 1, which), LOST);
        }
        FRESH.refused("15 carries without a house", x -> x.carries(0, 0, 0), LOST);
    }

    /** Promise 16: "LOST: UNKNOWN: WAY, POINT; OUTSIDE; STATE: as cable()". */
    private static void drop() {
        for (int way : NO_WAYS) {
            SOME.refused("16 drop of way " + way, x -> x.drop(way, 0, 0), LOST);
        }
        for (int k : new int[] {-1, 2, 3, MIN, MAX}) {
            SOME.refused("16 drop, point " + k + " of two", x -> x.drop(0, k, 0), LOST);
        }
        SOME.refused("16 drop, a ring's end is no point", x -> x.drop(2, 1, 0), LOST);
        for (int which : NO_HALVES) {
            SOME.refused("16 drop, which " + which, x -> x.drop(0, 0, which), LOST);
        }
        for (int t = 0; t <= 1; t++) {
            int which = t;
            PARTED.refused("16 drop, a run behind it is not there", x -> x.drop(0, 0, which), LOST);
            PARTED.refused("16 drop, its run is not there", x -> x.drop(0, 1, which), LOST);
            PARTED.refused("16 drop, no run is there", x -> x.drop(1, 0, which), LOST);
        }
        FRESH.refused("16 drop without a house", x -> x.drop(0, 0, 0), LOST);
    }

    public static void main(String[] args) {
        point();
        ofPoint();
        load();
        wayOfNumbersOutside();
        wayOfFaults();
        wayOfNoPoints();
        wayOfState();
        awayAndTooMuch();
        ofWay();
        cable();
        carries();
        drop();
        DUE.end();
    }
}
