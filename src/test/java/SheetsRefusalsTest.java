/** Promises 26 to 40: each refusal and each fault of each call, the first of several, and that it changes nothing. */
public final class SheetsRefusalsTest {
    private static final Due DUE = new Due("SheetsRefusalsTest");
    private static final int UNKNOWN = LampWays.UNKNOWN, OUTSIDE = LampWays.OUTSIDE, FULL = LampWays.FULL;
    private static final long LOST = LampWays.LOST;
    private static final int MIN = Integer.MIN_VALUE, MAX = Integer.MAX_VALUE;
    private static final int[] NO_SHEETS = {-1, 4, MIN, MAX};
    private static final int[] NO_LANES = {-1, 3, MIN, MAX};
    /** Of these 1 was taken away, 3 has not come yet. */
    private static final int[] NO_WAYS = {-1, 1, 3, 6, MIN, MAX};
    private static final Twins SOME = new Twins(DUE, Twins::some);
    private static final Twins CROWDED = new Twins(DUE, Twins::full);
    private static final Twins FRESH = new Twins(DUE, LampWays::new);

    /** Promise 26: "OUTSIDE: set (a bit of none), v; FULL". */
    private static void reading() {
        for (int set : new int[] {32, 33, 256, -1, MIN, MAX}) {
            SOME.refused("26 reading of " + set, x -> x.reading(set, 0), OUTSIDE);
        }
        for (int v : new int[] {-1, 201, MIN, MAX}) {
            SOME.refused("26 reading shows " + v, x -> x.reading(1, v), OUTSIDE);
            SOME.refused("26 reading of none shows " + v, x -> x.reading(0, v), OUTSIDE);
            CROWDED.refused("26 reading shows " + v + " ahead of full", x -> x.reading(1, v), OUTSIDE);
        }
        CROWDED.refused("26 a bit of none ahead of full", x -> x.reading(256, 0), OUTSIDE);
        CROWDED.refused("26 a thirteenth reading", x -> x.reading(1, 0), FULL);
        CROWDED.refused("26 a thirteenth reading of none", x -> x.reading(0, 200), FULL);
        FRESH.refused("26 a bit of none without a house", x -> x.reading(1, 0), OUTSIDE);
    }

    /** Promise 27: "The last k READINGS (0 .. as many as there are)"; "OUTSIDE". */
    private static void back() {
        for (int k : new int[] {-1, 3, 13, MIN, MAX}) {
            SOME.refused("27 back " + k + " of two", x -> x.back(k), OUTSIDE);
        }
        CROWDED.refused("27 back 13 of twelve", x -> x.back(13), OUTSIDE);
        CROWDED.refused("27 back none of twelve", x -> x.back(0), 12);
        FRESH.refused("27 back one of none", x -> x.back(1), OUTSIDE);
        FRESH.refused("27 back none of none", x -> x.back(0), 0);
    }

    /** Promises 28, 40: "OUTSIDE". */
    private static void fitsAndMany() {
        for (int what : new int[] {-1, 3, MIN, MAX}) {
            SOME.refused("28 fits " + what, x -> x.fits(what), OUTSIDE);
            FRESH.refused("28 fits " + what + " without a house", x -> x.fits(what), OUTSIDE);
        }
        for (int what : new int[] {-1, 6, MIN, MAX}) {
            SOME.refused("40 many " + what, x -> x.many(what), OUTSIDE);
            FRESH.refused("40 many " + what + " without a house", x -> x.many(what), OUTSIDE);
        }
    }

    /** Promise 30: "UNKNOWN; OUTSIDE: lane, n above 100; SIZE". */
    private static void sheet() {
        for (int k : NO_SHEETS) {
            SOME.faulty("30 sheet " + k, x -> x.sheet(k, 0, 1), UNKNOWN, 0);
            SOME.faulty("30 sheet " + k + " and all else", x -> x.sheet(k, 3, -1), UNKNOWN, 0);
        }
        for (int t = 0; t <= 3; t++) {
            int k = t;
            for (int lane : NO_LANES) {
                SOME.faulty("30 sheet of lane " + lane, x -> x.sheet(k, lane, 1), OUTSIDE, 0);
                SOME.faulty("30 sheet of lane " + lane + " ahead of size", x -> x.sheet(k, lane, -1), OUTSIDE, 0);
            }
            for (int n : new int[] {101, MAX}) {
                SOME.faulty("30 sheet of " + n, x -> x.sheet(k, 0, n), OUTSIDE, 0);
            }
            for (int n : new int[] {-1, MIN}) {
                SOME.faulty("30 sheet of " + n, x -> x.sheet(k, 0, n), -14, 4);
            }
        }
        FRESH.faulty("30 sheet of -1 at first", x -> x.sheet(0, 0, -1), -14, 4);
    }

    /** Promise 31: "0: it had nothing. UNKNOWN". */
    private static void lose() {
        for (int k : NO_SHEETS) {
            SOME.refused("31 lose " + k, x -> x.lose(k), UNKNOWN);
        }
        SOME.refused("31 lose one that has nothing", x -> x.lose(0), 0);
        FRESH.refused("31 lose the last at first", x -> x.lose(3), 0);
    }

    /** Promise 32: "UNKNOWN; NULL; INDEX". */
    private static void put() {
        for (int k : NO_SHEETS) {
            SOME.faulty("32 put to sheet " + k, x -> x.put(k, 0, 7), UNKNOWN, 0);
            SOME.faulty("32 put to sheet " + k + ", unknown first", x -> x.put(k, -1, 7), UNKNOWN, 0);
        }
        for (int i : new int[] {0, -1, 1, 100, MIN, MAX}) {
            SOME.faulty("32 put to nothing, cell " + i, x -> x.put(0, i, 7), -11, 1);
        }
        int[] lengths = {0, 4, 7, 33};
        for (int t = 1; t <= 3; t++) {
            int k = t;
            for (int i : new int[] {-1, lengths[k], lengths[k] + 1, 99, 100, MIN, MAX}) {
                SOME.faulty("32 put to sheet " + k + ", cell " + i, x -> x.put(k, i, 7), -13, 3);
            }
        }
    }

    /** Promise 33: "LOST: UNKNOWN, OUTSIDE: lane; FAULTS CAST (nothing is no CAST), NULL, INDEX". */
    private static void cell() {
        for (int k : NO_SHEETS) {
            SOME.faulty("33 cell of sheet " + k, x -> x.cell(k, 0, 0), LOST, 0);
            SOME.faulty("33 cell of sheet " + k + " and all else", x -> x.cell(k, -1, 3), LOST, 0);
        }
        for (int lane : NO_LANES) {
            SOME.faulty("33 cell as lane " + lane, x -> x.cell(1, 0, lane), LOST, 0);
            SOME.faulty("33 cell as lane " + lane + " of nothing", x -> x.cell(0, 0, lane), LOST, 0);
            SOME.faulty("33 cell as lane " + lane + " ahead of index", x -> x.cell(1, -1, lane), LOST, 0);
        }
        int[] lengths = {0, 4, 7, 33};
        for (int t = 1; t <= 3; t++) {
            int k = t;
            int its = k == 3 ? 0 : k;
            for (int lane = 0; lane <= 2; lane++) {
                int as = lane;
                boolean cast = lane != its;
                if (cast) {
                    SOME.faulty("33 cell of " + k + " as " + as, x -> x.cell(k, 0, as), LOST, 2);
                }
                for (int i : new int[] {-1, lengths[k], 99, MIN, MAX}) {
                    SOME.faulty("33 cell " + i + " of " + k + " as " + as, x -> x.cell(k, i, as), LOST, cast ? 2 : 3);
                }
            }
        }
        for (int lane = 0; lane <= 2; lane++) {
            int as = lane;
            SOME.faulty("33 cell of nothing as " + as, x -> x.cell(0, 0, as), LOST, 1);
            SOME.faulty("33 cell of nothing ahead of index", x -> x.cell(0, -1, as), LOST, 1);
        }
    }

    /** Promise 34: "UNKNOWN; FAULTS NULL (the first, the other), CAST (unlike LANES)". */
    private static void copyOfOthers() {
        for (int k : NO_SHEETS) {
            SOME.faulty("34 copy from sheet " + k, x -> x.copy(k, 0, 1, 0, 1), UNKNOWN, 0);
            SOME.faulty("34 copy to sheet " + k, x -> x.copy(1, 0, k, 0, 1), UNKNOWN, 0);
            SOME.faulty("34 copy from nothing to sheet " + k, x -> x.copy(0, 0, k, 0, 1), UNKNOWN, 0);
            SOME.faulty("34 copy from sheet " + k + " to nothing", x -> x.copy(k, -1, 0, -1, -1), UNKNOWN, 0);
        }
        for (int t = 0; t <= 3; t++) {
            int k = t;
            SOME.faulty("34 copy from nothing to " + k, x -> x.copy(0, 0, k, 0, 0), -11, 1);
            SOME.faulty("34 copy from " + k + " to nothing", x -> x.copy(k, 0, 0, 0, 0), -11, 1);
            SOME.faulty("34 copy, null ahead of index", x -> x.copy(0, -1, k, -1, -1), -11, 1);
            SOME.faulty("34 copy, null ahead of index", x -> x.copy(k, 99, 0, 99, 99), -11, 1);
            for (int other = 1; other <= 3; other++) {
                int to = other;
                if (k != 0 && k != other) {
                    SOME.faulty("34 copy from " + k + " to " + to, x -> x.copy(k, 0, to, 0, 1), -12, 2);
                    SOME.faulty("34 copy of none from " + k + " to " + to, x -> x.copy(k, 0, to, 0, 0), -12, 2);
                    SOME.faulty("34 copy, cast ahead of index", x -> x.copy(k, -1, to, -1, -1), -12, 2);
                }
            }
        }
    }

    /** Promise 34: "INDEX: i, j, n below 0 or beyond". Sheet 0 becomes four ints beside the seven of sheet 2. */
    private static void copyOfCellsThatAreNotThere() {
        Twins ints = new Twins(DUE, () -> {
            LampWays x = Twins.some();
            Twins.fill(x, 0, 2, 11, 12, 13, 14);
            return x;
        });
        int[][] calls = {
            {-1, 0, 1}, {0, -1, 1}, {0, 0, -1}, {-1, 0, 0}, {0, -1, 0}, {8, 0, 0}, {0, 5, 0}, {7, 0, 1}, {0, 4, 1},
            {0, 0, 5}, {4, 0, 4}, {0, 1, 4}, {MIN, 0, 1}, {0, MIN, 1}, {0, 0, MIN}, {MAX, 0, 1}, {0, MAX, 1},
            {0, 0, MAX}, {MAX, MAX, MAX}, {1, 1, MAX}, {MAX, 0, 0}, {0, MAX, 0}, {-1, 0, MAX}, {0, 0, 8}, {1, 0, -1},
        };
        for (int[] c : calls) {
            String call = "34 copy(2, " + c[0] + ", 0, " + c[1] + ", " + c[2] + ")";
            ints.faulty(call, x -> x.copy(2, c[0], 0, c[1], c[2]), -13, 3);
        }
        for (int[] c : new int[][] {{0, 1, 7}, {1, 0, 7}, {0, 0, 8}, {8, 8, 0}, {0, 8, 0}, {-1, 0, 1}, {0, -1, 1}}) {
            String call = "34 copy(2, " + c[0] + ", 2, " + c[1] + ", " + c[2] + ")";
            ints.faulty(call, x -> x.copy(2, c[0], 2, c[1], c[2]), -13, 3);
        }
    }

    /** Promises 35, 36: "UNKNOWN": no body begins, so TRACE stays. */
    private static void tellAndLabel() {
        for (int way : NO_WAYS) {
            SOME.refused("35 tell " + way, x -> x.tell(way), UNKNOWN);
            SOME.refused("36 label " + way, x -> x.label(way), UNKNOWN);
        }
        CROWDED.refused("35 tell of one that was taken away", x -> x.tell(5), UNKNOWN);
        CROWDED.refused("36 label of one that was taken away", x -> x.label(5), UNKNOWN);
        FRESH.refused("35 tell without a house", x -> x.tell(0), UNKNOWN);
        FRESH.refused("36 label without a house", x -> x.label(0), UNKNOWN);
    }

    /** Promise 37: "UNKNOWN; OUTSIDE; CAST: it is none". */
    private static void as() {
        for (int way : NO_WAYS) {
            SOME.faulty("37 way " + way + " as a chain", x -> x.as(way, 0), UNKNOWN, 0);
            SOME.faulty("37 way " + way + ", unknown first", x -> x.as(way, 3), UNKNOWN, 0);
        }
        for (int kind : new int[] {-1, 3, MIN, MAX}) {
            SOME.faulty("37 a chain as kind " + kind, x -> x.as(0, kind), OUTSIDE, 0);
            SOME.faulty("37 a strong one as kind " + kind, x -> x.as(2, kind), OUTSIDE, 0);
        }
        for (int way = 0; way <= 4; way++) {
            for (int kind = way % 3 + 1; kind <= 2; kind++) {
                int asked = way;
                int as = kind;
                CROWDED.faulty("37 way " + way + " as kind " + as, x -> x.as(asked, as), -12, 2);
            }
        }
        FRESH.faulty("37 as without a house", x -> x.as(0, 0), UNKNOWN, 0);
    }

    public static void main(String[] args) {
        reading();
        back();
        fitsAndMany();
        sheet();
        lose();
        put();
        cell();
        copyOfOthers();
        copyOfCellsThatAreNotThere();
        tellAndLabel();
        as();
        DUE.end();
    }
}
