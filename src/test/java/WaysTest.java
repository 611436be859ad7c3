/** Promises 8 to 17: points, ways, what they need, carry and lose. */
public final class WaysTest {
    private static final Due DUE = new Due("WaysTest");
    private static final int NONE = LampWays.NONE, UNKNOWN = LampWays.UNKNOWN, OUTSIDE = LampWays.OUTSIDE,
            STATE = LampWays.STATE, FULL = LampWays.FULL;
    private static final long LOST = LampWays.LOST;

    private static void share(String what, long upper, long lower, long wantUpper, long wantLower) {
        DUE.is(what + ", upper", upper, wantUpper);
        DUE.is(what + ", lower", lower, wantLower);
    }

    private static void carried(LampWays x, int way, int piece, long upper, long lower) {
        share("15 way " + way + ", piece " + piece, x.carries(way, piece, 0), x.carries(way, piece, 1), upper, lower);
    }

    private static void dropped(LampWays x, int way, int k, long upper, long lower) {
        share("16 way " + way + ", point " + k, x.drop(way, k, 0), x.drop(way, k, 1), upper, lower);
    }

    private static void point() {
        LampWays x = Lamps.told("h3;b0;011");
        DUE.is("8 no such place", x.point(3, 0, 9), UNKNOWN);
        DUE.is("8 no such place", x.point(-1, 1, 0), UNKNOWN);
        DUE.is("8 no load", x.point(0, 0, 0), OUTSIDE);
        DUE.is("8 too great a load", x.point(0, 21, 0), OUTSIDE);
        DUE.is("8 no such room", x.point(0, 1, 6), OUTSIDE);
        DUE.is("8 no such room", x.point(0, 1, -1), OUTSIDE);
        DUE.is("8 none yet", x.many(3), 0);
        DUE.is("8 the first", x.point(0, 1, 0), 0);
        DUE.is("8 the second", x.point(2, 20, 5), 1);
        for (int p = 2; p < 8; p++) {
            DUE.is("8 one more", x.point(1, p, 0), p);
        }
        DUE.is("8 full", x.point(1, 1, 0), FULL);
        DUE.is("8 outside comes first", x.point(1, 0, 0), OUTSIDE);
        DUE.is("8 unknown comes first", x.point(9, 1, 0), UNKNOWN);
        DUE.is("8 eight", x.many(3), 8);
    }

    private static void ofPoint() {
        LampWays x = Lamps.told("h3;b0;011");
        x.point(2, 20, 5);
        x.point(1, 7, 3);
        Lamps.lay(x, 0, 9, 0);
        Lamps.lay(x, 0, 9, 1);
        int[][] want = {{2, 20, 5, 0}, {1, 7, 3, 1}};
        for (int p = 0; p < 2; p++) {
            for (int what = 0; what <= 3; what++) {
                DUE.is("9 point " + p + ", " + what, x.ofPoint(p, what), want[p][what]);
            }
            DUE.is("9 another number", x.ofPoint(p, 4), OUTSIDE);
            DUE.is("9 another number", x.ofPoint(p, -1), OUTSIDE);
        }
        x.away(0);
        DUE.is("9 of no way", x.ofPoint(0, 3), NONE);
        DUE.is("9 of its way", x.ofPoint(1, 3), 1);
        DUE.is("9 no such point", x.ofPoint(2, 9), UNKNOWN);
        DUE.is("9 no such point", x.ofPoint(-1, 0), UNKNOWN);
        DUE.is("9 no such point", x.ofPoint(8, 0), UNKNOWN);
    }

    private static void load() {
        LampWays x = Lamps.told("h3;b0;011");
        x.point(0, 5, 0);
        x.point(0, 6, 0);
        DUE.is("10 what it was", x.load(0, 20), 5);
        DUE.is("10 what it was", x.load(0, 1), 20);
        DUE.is("10 too small", x.load(0, 0), OUTSIDE);
        DUE.is("10 too great", x.load(0, 21), OUTSIDE);
        DUE.is("10 unknown comes first", x.load(2, 0), UNKNOWN);
        DUE.is("10 no such point", x.load(-1, 5), UNKNOWN);
        DUE.is("10 what it is", x.ofPoint(0, 1), 1);
        DUE.is("10 the other one", x.ofPoint(1, 1), 6);
        Lamps.lay(x, 0, 6, 0, 1);
        DUE.is("10 too much by it", x.tooMuch(0), 0);
        x.load(1, 5);
        DUE.is("10 not too much", x.tooMuch(0), NONE);
    }

    private static void way() {
        LampWays x = Lamps.lit(Lamps.FIVE, 1, 3, 4, 2, 1, 0, 2);
        DUE.is("11 a chain of six", Lamps.lay(x, 0, 1, 5, 4, 3, 2, 1, 0), 0);
        DUE.is("11 its points", x.ofWay(0, 10), 5);
        DUE.is("11 its points", x.ofWay(0, 15), 0);
        DUE.is("11 of another way", Lamps.lay(x, 0, 9, 6, 5), STATE);
        DUE.is("11 told twice", Lamps.lay(x, 0, 9, 6, 6), STATE);
        DUE.is("11 a point that is not there", Lamps.lay(x, 0, 9, 5, 7), UNKNOWN);
        DUE.is("11 a point below 0", Lamps.lay(x, 0, 9, -1), UNKNOWN);
        DUE.is("11 unknown comes first", Lamps.lay(x, 0, 9, 6, 6, 7), UNKNOWN);
        DUE.is("11 none", Lamps.lay(x, 0, 9), OUTSIDE);
        DUE.is("11 seven", Lamps.lay(x, 0, 9, 0, 1, 2, 3, 4, 5, 9), OUTSIDE);
        DUE.is("11 one", Lamps.lay(x, 2, 99, 6), 1);
        DUE.is("11 two are there", x.many(4), 2);
        x.away(0);
        DUE.is("11 free again", Lamps.lay(x, 1, 9, 5), 2);
        for (int number = 3; number < 6; number++) {
            DUE.is("11 one more", Lamps.lay(x, 0, 9, number - 3), number);
        }
        DUE.is("11 full", Lamps.lay(x, 0, 9, 3), FULL);
        DUE.is("11 state comes first", Lamps.lay(x, 0, 9, 3, 3), STATE);
        x.away(5);
        DUE.is("11 full ever", Lamps.lay(x, 0, 9, 3), FULL);
        DUE.is("11 four are there", x.many(4), 4);
        DUE.is("11 no fault", x.fault(), 0);
    }

    private static void wayRefused() {
        LampWays x = Lamps.lit(Lamps.FIVE, 1, 3, 4);
        x.sheet(1, 1, 4);
        x.put(1, 1, 1);
        x.put(1, 2, 2);
        x.put(1, 3, 65536 + 2);
        DUE.is("11 no such sheet", x.way(9, 0, 4, 9, 0, 1), UNKNOWN);
        DUE.is("11 no such sheet", x.way(0, 9, -1, 1, 0, 1), UNKNOWN);
        DUE.is("11 no such kind", x.way(3, 9, 1, 0, 0, 1), OUTSIDE);
        DUE.is("11 no such kind", x.way(-1, 9, 1, 1, 0, 1), OUTSIDE);
        DUE.is("11 no such fuse", x.way(0, 0, 1, 0, 0, 1), OUTSIDE);
        DUE.is("11 no such fuse", x.way(0, 100, 1, 1, 0, 1), OUTSIDE);
        DUE.is("11 no such lane", x.way(0, 9, 1, 3, 0, 1), OUTSIDE);
        DUE.is("11 no such lane", x.way(0, 9, 0, -1, 0, 1), OUTSIDE);
        DUE.is("11 its fault", x.fault(), 0);
        DUE.is("11 another lane", x.way(0, 9, 1, 2, -1, -1), -12);
        DUE.is("11 its fault", x.fault(), 2);
        DUE.is("11 nothing", x.way(0, 9, 0, 2, -1, -1), -11);
        DUE.is("11 its fault", x.fault(), 1);
        DUE.is("11 a length below 0", x.way(0, 9, 1, 1, -1, -1), -14);
        DUE.is("11 its fault", x.fault(), 4);
        DUE.is("11 a cell too many", x.way(0, 9, 1, 1, 1, 4), -13);
        DUE.is("11 a cell too many", x.way(0, 9, 1, 1, 0, 7), -13);
        DUE.is("11 ahead of the first", x.way(0, 9, 1, 1, -1, 0), -13);
        DUE.is("11 behind the last", x.way(0, 9, 1, 1, 5, 0), -13);
        DUE.is("11 its fault", x.fault(), 3);
        DUE.is("11 none, at the end", x.way(0, 9, 1, 1, 4, 0), OUTSIDE);
        DUE.is("11 its fault", x.fault(), 0);
        DUE.is("11 no way yet", x.many(4), 0);
        DUE.is("11 a cell that was cut is told twice", x.way(0, 9, 1, 1, 2, 2), STATE);
        DUE.is("11 cells from the second on", x.way(0, 9, 1, 1, 1, 2), 0);
        DUE.is("11 the first of them", x.ofWay(0, 10), 1);
        DUE.is("11 the second of them", x.ofWay(0, 11), 2);
    }

    private static void away() {
        LampWays x = Lamps.lit(Lamps.FIVE, 1, 3, 4);
        Lamps.lay(x, 0, 9, 2, 0);
        Lamps.lay(x, 1, 9, 1);
        DUE.is("12 no such way", x.away(2), UNKNOWN);
        DUE.is("12 no such way", x.away(-1), UNKNOWN);
        DUE.is("12 no such way", x.away(6), UNKNOWN);
        DUE.is("12 how many points it had", x.away(0), 2);
        DUE.is("12 it is not there", x.away(0), UNKNOWN);
        DUE.is("12 one is", x.many(4), 1);
        DUE.is("12 not there", x.ofWay(0, 0), UNKNOWN);
        DUE.is("12 not there", x.cable(0, 0), UNKNOWN);
        DUE.is("12 not there", x.carries(0, 0, 0), LOST);
        DUE.is("12 not there", x.drop(0, 0, 0), LOST);
        DUE.is("12 not there", x.tooMuch(0), UNKNOWN);
        DUE.is("12 not there", x.tell(0), UNKNOWN);
        DUE.is("12 not there", x.label(0), UNKNOWN);
        DUE.is("12 not there", x.as(0, 0), UNKNOWN);
        DUE.is("12 its points are free", x.ofPoint(0, 3), NONE);
        DUE.is("12 its points are free", x.ofPoint(2, 3), NONE);
        DUE.is("12 the other's not", x.ofPoint(1, 3), 1);
        DUE.is("12 its number is not given again", Lamps.lay(x, 0, 9, 0), 2);
    }

    private static void ofWay() {
        LampWays x = Lamps.lit(Lamps.FIVE, 1, 3, 4, 2, 1, 0);
        for (int kind = 0; kind <= 2; kind++) {
            Lamps.lay(x, kind, 33 * (kind + 1), kind + 3, kind);
            DUE.is("13 kind", x.ofWay(kind, 0), kind);
            DUE.is("13 fuse", x.ofWay(kind, 1), 33 * (kind + 1));
            DUE.is("13 points", x.ofWay(kind, 2), 2);
            DUE.is("13 pieces", x.ofWay(kind, 3), kind == 0 ? 2 : 3);
            DUE.is("13 the first", x.ofWay(kind, 10), kind + 3);
            DUE.is("13 the second", x.ofWay(kind, 11), kind);
            DUE.is("13 no third", x.ofWay(kind, 12), OUTSIDE);
        }
        DUE.is("13 another number", x.ofWay(0, 4), OUTSIDE);
        DUE.is("13 another number", x.ofWay(0, 9), OUTSIDE);
        DUE.is("13 another number", x.ofWay(0, -1), OUTSIDE);
        DUE.is("13 another number", x.ofWay(0, Integer.MIN_VALUE), OUTSIDE);
        DUE.is("13 another number", x.ofWay(0, Integer.MAX_VALUE), OUTSIDE);
        DUE.is("13 no such way", x.ofWay(3, 99), UNKNOWN);
        DUE.is("13 no such way", x.ofWay(-1, 0), UNKNOWN);
    }

    private static LampWays three() {
        LampWays x = Lamps.told(Lamps.FIVE);
        int[][] points = {{1, 5}, {3, 7}, {4, 20}, {2, 1}, {1, 9}, {0, 3}};
        for (int[] p : points) {
            x.point(p[0], p[1], 0);
        }
        Lamps.lay(x, 0, 12, 0, 1);
        Lamps.lay(x, 1, 12, 2, 3);
        Lamps.lay(x, 2, 4, 4, 5);
        return x;
    }

    private static void cable() {
        LampWays x = three();
        int[] yards = {6, 19, 12};
        int[] drilled = {2, 11, 4};
        for (int way = 0; way < 3; way++) {
            DUE.is("14 yards of " + way, x.cable(way, 0), yards[way]);
            DUE.is("14 drilled of " + way, x.cable(way, 1), drilled[way]);
        }
        DUE.is("14 another number", x.cable(0, 2), OUTSIDE);
        DUE.is("14 another number", x.cable(0, -1), OUTSIDE);
        DUE.is("14 no such way", x.cable(3, 2), UNKNOWN);
        x.box(1);
        DUE.is("14 from another box", x.cable(0, 0), 3);
        LampWays cut = Lamps.lit("h4;b0;011;121", 1, 3, 2);
        Lamps.lay(cut, 0, 9, 0, 1);
        Lamps.lay(cut, 1, 9, 2);
        DUE.is("14 a run is not there", cut.cable(0, 0), STATE);
        DUE.is("14 a run is not there", cut.cable(0, 1), STATE);
        DUE.is("14 outside comes first", cut.cable(0, 2), OUTSIDE);
        DUE.is("14 all are there", cut.cable(1, 0), 4);
        LampWays first = Lamps.lit("h4;b0;011;231", 2, 3, 1);
        Lamps.lay(first, 0, 9, 0, 1);
        DUE.is("14 just the first run is not there", first.cable(0, 0), STATE);
        DUE.is("17 just the first run is not there", first.tooMuch(0), STATE);
        DUE.is("15 just the first run is not there", first.carries(0, 1, 0), LOST);
        cut.shut(0, true);
        DUE.is("14 shut", cut.cable(1, 0), STATE);
        cut.box(2);
        DUE.is("14 at the box", cut.cable(1, 0), 0);
    }

    private static void carries() {
        LampWays x = three();
        carried(x, 0, 0, 12, 1);
        carried(x, 0, 1, 7, 1);
        carried(x, 1, 0, 15, 1);
        carried(x, 1, 1, -5, 1);
        carried(x, 1, 2, -6, 1);
        carried(x, 2, 0, 9, 2);
        carried(x, 2, 1, -9, 2);
        carried(x, 2, 2, -15, 2);
        DUE.is("15 no such piece", x.carries(0, 2, 0), LOST);
        DUE.is("15 no such piece", x.carries(1, 3, 1), LOST);
        DUE.is("15 no such piece", x.carries(1, -1, 0), LOST);
        DUE.is("15 no such half", x.carries(0, 0, 2), LOST);
        DUE.is("15 no such half", x.carries(0, 0, -1), LOST);
        DUE.is("15 no such way", x.carries(3, 0, 0), LOST);
        DUE.is("15 no such way", x.carries(-1, 0, 0), LOST);
        x.load(3, 20);
        carried(x, 1, 0, 20, 1);
    }

    /** The box at 0, runs of 2, 3, 4 yards around: shares that do not come out even, and one of nothing. */
    private static void thirds() {
        LampWays x = Lamps.told("h3;b0;012;123;204");
        x.point(1, 10, 0);
        x.point(2, 1, 0);
        Lamps.lay(x, 1, 8, 0, 1);
        carried(x, 0, 0, 74, 9);
        carried(x, 0, 1, -16, 9);
        carried(x, 0, 2, -25, 9);
        dropped(x, 0, 0, 148, 9);
        dropped(x, 0, 1, 100, 9);
        DUE.is("17 just too much", x.tooMuch(0), 0);
        x.away(0);
        Lamps.lay(x, 1, 9, 0, 1);
        DUE.is("17 not too much", x.tooMuch(1), NONE);
        x.load(0, 4);
        x.load(1, 14);
        carried(x, 1, 0, 28, 3);
        carried(x, 1, 1, 16, 3);
        carried(x, 1, 2, -26, 3);
        x.load(0, 9);
        x.load(1, 18);
        carried(x, 1, 0, 15, 1);
        x.away(1);
        x.load(0, 2);
        x.load(1, 7);
        Lamps.lay(x, 2, 4, 0, 1);
        carried(x, 2, 0, 14, 3);
        carried(x, 2, 1, 8, 3);
        carried(x, 2, 2, -13, 3);
        dropped(x, 2, 0, 14, 3);
        dropped(x, 2, 1, 26, 3);
        DUE.is("14 twice as many yards", x.cable(2, 0), 18);
    }

    private static void atTheBox() {
        LampWays x = Lamps.told("h2;b1;015");
        x.point(1, 3, 0);
        x.point(1, 4, 0);
        x.point(1, 5, 0);
        Lamps.lay(x, 1, 6, 0, 1);
        Lamps.lay(x, 2, 4, 2);
        carried(x, 0, 0, 7, 1);
        carried(x, 0, 1, 4, 1);
        carried(x, 0, 2, 0, 1);
        carried(x, 1, 0, 5, 1);
        carried(x, 1, 1, 0, 1);
        dropped(x, 0, 1, 0, 1);
        dropped(x, 1, 0, 0, 1);
        DUE.is("14 nothing is needed", x.cable(0, 0), 0);
        DUE.is("17 all by the first", x.tooMuch(0), 0);
        x.box(0);
        carried(x, 0, 0, 7, 2);
        carried(x, 0, 2, -7, 2);
        DUE.is("17 by both ends", x.tooMuch(0), NONE);
    }

    private static void drop() {
        LampWays x = three();
        dropped(x, 0, 0, 36, 1);
        dropped(x, 0, 1, 57, 1);
        dropped(x, 1, 0, 75, 1);
        dropped(x, 1, 1, 30, 1);
        dropped(x, 2, 0, 27, 4);
        dropped(x, 2, 1, 0, 1);
        DUE.is("16 no such point", x.drop(0, 2, 0), LOST);
        DUE.is("16 no such point of a ring", x.drop(1, 2, 0), LOST);
        DUE.is("16 no such point", x.drop(0, -1, 1), LOST);
        DUE.is("16 no such half", x.drop(0, 0, 2), LOST);
        DUE.is("16 no such half", x.drop(0, 0, -1), LOST);
        DUE.is("16 no such way", x.drop(3, 0, 0), LOST);
    }

    private static void cutOff() {
        LampWays x = Lamps.lit("h4;b0;011;121", 1, 3, 2);
        Lamps.lay(x, 0, 1, 0, 1);
        for (int which = 0; which <= 1; which++) {
            DUE.is("15 a run of another piece is not there", x.carries(0, 0, which), LOST);
            DUE.is("16 a run of a later piece is not there", x.drop(0, 0, which), LOST);
        }
        DUE.is("17 a run is not there", x.tooMuch(0), STATE);
        DUE.is("15 no fault of the machine", x.fault(), 0);
    }

    private static void tooMuch() {
        LampWays x = three();
        DUE.is("17 as much as its fuse", x.tooMuch(0), NONE);
        DUE.is("17 the first piece", x.tooMuch(1), 0);
        DUE.is("17 the first piece", x.tooMuch(2), 0);
        DUE.is("17 no such way", x.tooMuch(3), UNKNOWN);
        DUE.is("17 no such way", x.tooMuch(-1), UNKNOWN);
        x.load(0, 6);
        DUE.is("17 one more", x.tooMuch(0), 0);
        LampWays ring = Lamps.told("h3;b0;012;121;201");
        ring.point(1, 1, 0);
        ring.point(2, 20, 0);
        Lamps.lay(ring, 1, 6, 0, 1);
        carried(ring, 0, 0, 11, 2);
        carried(ring, 0, 1, 9, 2);
        carried(ring, 0, 2, -31, 2);
        DUE.is("17 the other way", ring.tooMuch(0), 2);
    }

    public static void main(String[] args) {
        point();
        ofPoint();
        load();
        way();
        wayRefused();
        away();
        ofWay();
        cable();
        carries();
        thirds();
        atTheBox();
        drop();
        cutOff();
        tooMuch();
        DUE.end();
    }
}
