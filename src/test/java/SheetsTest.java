/** Promises 30 to 40: sheets, telling, labels, kinds, the trace, faults, how many there are. */
public final class SheetsTest {
    private static final Due DUE = new Due("SheetsTest");
    private static final int UNKNOWN = LampWays.UNKNOWN, OUTSIDE = LampWays.OUTSIDE;
    private static final long LOST = LampWays.LOST;

    private static void sheet() {
        LampWays x = new LampWays();
        for (int lane = 0; lane <= 2; lane++) {
            DUE.is("30 the longest", x.sheet(lane, lane, 100), 1);
            DUE.is("30 its last cell", x.cell(lane, 99, lane), 0);
            x.put(lane, 99, 7);
            x.put(lane, 0, 7);
            DUE.is("30 a new one", x.sheet(lane, lane, 100), 1);
            DUE.is("30 has 0 at first", x.cell(lane, 0, lane), 0);
            DUE.is("30 has 0 at first", x.cell(lane, 99, lane), 0);
        }
        x.put(1, 0, 7);
        x.sheet(0, 0, 100);
        DUE.is("30 the sheet beside it stays", x.cell(1, 0, 1), 7);
        DUE.is("30 the last one", x.sheet(3, 2, 100), 1);
        DUE.is("30 one of no cells", x.sheet(3, 0, 0), 1);
        DUE.is("30 has none", x.cell(3, 0, 0), LOST);
        DUE.is("30 but is there", x.fault(), 3);
        x.sheet(0, 2, 3);
        x.put(0, 2, 5);
        DUE.is("30 no such sheet", x.sheet(4, 9, -1), UNKNOWN);
        DUE.is("30 no such sheet", x.sheet(-1, 0, 1), UNKNOWN);
        DUE.is("30 no such lane", x.sheet(0, 3, -1), OUTSIDE);
        DUE.is("30 no such lane", x.sheet(0, -1, 1), OUTSIDE);
        DUE.is("30 too long", x.sheet(0, 0, 101), OUTSIDE);
        DUE.is("30 far too long", x.sheet(0, 0, Integer.MAX_VALUE), OUTSIDE);
        DUE.is("30 its fault", x.fault(), 0);
        DUE.is("30 a length below 0", x.sheet(0, 0, -1), -14);
        DUE.is("30 its fault", x.fault(), 4);
        DUE.is("30 far below 0", x.sheet(0, 0, Integer.MIN_VALUE), -14);
        DUE.is("30 as it was", x.cell(0, 2, 2), 5);
        DUE.is("30 a shorter one", x.sheet(0, 1, 2), 1);
        DUE.is("30 of another lane", x.cell(0, 1, 1), 0);
        DUE.is("30 ends sooner", x.cell(0, 2, 1), LOST);
    }

    private static void lose() {
        LampWays x = new LampWays();
        x.sheet(1, 0, 0);
        x.sheet(2, 0, 2);
        x.put(2, 1, 9);
        DUE.is("31 it had a row", x.lose(1), 1);
        DUE.is("31 it had nothing", x.lose(1), 0);
        DUE.is("31 no such sheet", x.lose(4), UNKNOWN);
        DUE.is("31 no such sheet", x.lose(-1), UNKNOWN);
        DUE.is("31 the other one", x.cell(2, 1, 0), 9);
        DUE.is("31 it had a row", x.lose(2), 1);
        DUE.is("31 nothing is left", x.cell(2, 1, 0), LOST);
        DUE.is("31 nothing is left", x.fault(), 1);
        DUE.is("31 names no fault", x.lose(9), UNKNOWN);
        DUE.is("31 names no fault", x.fault(), 1);
        x.sheet(2, 0, 2);
        DUE.is("31 a new row has 0", x.cell(2, 1, 0), 0);
    }

    private static void put() {
        LampWays x = new LampWays();
        int[] values = {300, -129, 70001, -70001, 128, 32768, Integer.MAX_VALUE, Integer.MIN_VALUE, -1};
        for (int lane = 0; lane <= 2; lane++) {
            x.sheet(lane, lane, 2);
            for (int v : values) {
                int want = lane == 0 ? (byte) v : lane == 1 ? (short) v : v;
                DUE.is("32 becomes " + v, x.put(lane, 1, v), 1);
                DUE.is("32 cut to lane " + lane, x.cell(lane, 1, lane), want);
                DUE.is("32 the other cell", x.cell(lane, 0, lane), 0);
            }
        }
        DUE.is("32 no such sheet", x.put(4, -1, 0), UNKNOWN);
        DUE.is("32 no such sheet", x.put(-1, 0, 0), UNKNOWN);
        DUE.is("32 its fault", x.fault(), 0);
        DUE.is("32 nothing", x.put(3, -1, 0), -11);
        DUE.is("32 its fault", x.fault(), 1);
        DUE.is("32 behind the last", x.put(0, 2, 5), -13);
        DUE.is("32 its fault", x.fault(), 3);
        DUE.is("32 ahead of the first", x.put(1, -1, 5), -13);
        DUE.is("32 far away", x.put(1, Integer.MAX_VALUE, 5), -13);
        DUE.is("32 nothing has changed", x.cell(0, 1, 0), -1);
        DUE.is("32 nothing has changed", x.cell(1, 0, 1), 0);
    }

    private static void lost(LampWays x, int k, int i, int lane, int fault) {
        DUE.is("33 cell " + i + " of " + k + " as " + lane, x.cell(k, i, lane), LOST);
        DUE.is("33 its fault", x.fault(), fault);
    }

    private static void cell() {
        LampWays x = new LampWays();
        x.sheet(1, 1, 3);
        x.put(1, 0, 7);
        x.put(1, 2, -8);
        DUE.is("33 the first", x.cell(1, 0, 1), 7);
        DUE.is("33 the last", x.cell(1, 2, 1), -8);
        lost(x, 1, 3, 1, 3);
        lost(x, 1, -1, 1, 3);
        lost(x, 1, Integer.MIN_VALUE, 1, 3);
        lost(x, 1, -1, 0, 2);
        lost(x, 1, 0, 2, 2);
        lost(x, 0, -1, 2, 1);
        lost(x, 4, 0, 0, 0);
        lost(x, 0, 0, 0, 1);
        lost(x, -1, 0, 0, 0);
        lost(x, 0, 0, 0, 1);
        lost(x, 1, 0, 3, 0);
        lost(x, 1, 0, 0, 2);
        lost(x, 1, 0, -1, 0);
        lost(x, 1, 9, 1, 3);
        x.cell(1, 0, 1);
        DUE.is("33 no fault", x.fault(), 0);
    }

    private static void holds(LampWays x, int k, int lane, int... want) {
        for (int i = 0; i < want.length; i++) {
            DUE.is("34 cell " + i + " of " + k, x.cell(k, i, lane), want[i]);
        }
    }

    private static void copy() {
        LampWays x = new LampWays();
        x.sheet(0, 2, 5);
        x.sheet(1, 2, 3);
        for (int i = 0; i < 5; i++) {
            x.put(0, i, i + 1);
        }
        DUE.is("34 to another one", x.copy(0, 1, 1, 0, 3), 3);
        holds(x, 1, 2, 2, 3, 4);
        DUE.is("34 on itself, upwards", x.copy(0, 0, 0, 1, 4), 4);
        holds(x, 0, 2, 1, 1, 2, 3, 4);
        DUE.is("34 on itself, downwards", x.copy(0, 1, 0, 0, 4), 4);
        holds(x, 0, 2, 1, 2, 3, 4, 4);
        DUE.is("34 none", x.copy(0, 5, 1, 3, 0), 0);
        DUE.is("34 no fault", x.fault(), 0);
        holds(x, 1, 2, 2, 3, 4);
        DUE.is("34 one", x.copy(1, 2, 0, 4, 1), 1);
        holds(x, 0, 2, 1, 2, 3, 4, 4);
        DUE.is("34 all", x.copy(1, 0, 1, 0, 3), 3);
        holds(x, 1, 2, 2, 3, 4);
    }

    private static void copyRefused() {
        LampWays x = new LampWays();
        x.sheet(0, 2, 5);
        x.sheet(1, 2, 3);
        x.sheet(2, 1, 5);
        x.put(0, 0, 1);
        int[][] calls = {
            {4, 0, 0, 0, 1, UNKNOWN, 0}, {0, 0, 4, 0, 1, UNKNOWN, 0}, {-1, 0, 3, 0, 1, UNKNOWN, 0},
            {3, 0, -1, 0, 1, UNKNOWN, 0}, {3, -1, 0, -1, -1, -11, 1}, {0, -1, 3, -1, -1, -11, 1},
            {3, 0, 3, 0, 0, -11, 1}, {0, -1, 2, -1, -1, -12, 2}, {2, 0, 0, 0, 0, -12, 2},
            {0, -1, 1, 0, 1, -13, 3}, {0, 0, 1, -1, 1, -13, 3}, {0, 0, 1, 0, -1, -13, 3},
            {0, 0, 1, 0, 4, -13, 3}, {1, 0, 0, 0, 4, -13, 3}, {0, 3, 1, 0, 3, -13, 3}, {0, 0, 1, 2, 2, -13, 3},
            {0, 6, 1, 0, 0, -13, 3}, {0, 0, 1, 4, 0, -13, 3}, {0, Integer.MAX_VALUE, 1, 0, 1, -13, 3},
            {0, 1, 1, 1, Integer.MAX_VALUE, -13, 3}, {0, 0, 0, 0, Integer.MIN_VALUE, -13, 3},
        };
        for (int[] c : calls) {
            String call = "34 copy(" + c[0] + ", " + c[1] + ", " + c[2] + ", " + c[3] + ", " + c[4] + ")";
            DUE.is(call, x.copy(c[0], c[1], c[2], c[3], c[4]), c[5]);
            DUE.is(call + ", its fault", x.fault(), c[6]);
        }
        holds(x, 0, 2, 1, 0, 0, 0, 0);
        holds(x, 1, 2, 0, 0, 0);
    }

    private static LampWays kinds() {
        LampWays x = Lamps.lit("h2;b0;011", 0, 0, 0, 0, 0, 0, 0, 0);
        Lamps.lay(x, 0, 9, 0, 1);
        Lamps.lay(x, 1, 9, 2, 3, 4);
        Lamps.lay(x, 2, 9, 5, 6, 7);
        return x;
    }

    private static void tell() {
        LampWays x = kinds();
        DUE.is("35 a chain", x.tell(0), 2);
        DUE.is("38 its body", x.trace(), 1);
        DUE.is("35 a ring", x.tell(1), 103);
        DUE.is("38 its bodies", x.trace(), (1 * 31 + 2) * 31 + 1);
        int trace = x.trace();
        DUE.is("35 a strong one", x.tell(2), 106);
        DUE.is("38 its bodies", x.trace(), (((trace * 31 + 3) * 31 + 2) * 31 + 1) * 31 + 1);
        trace = x.trace();
        DUE.is("35 no such way", x.tell(3), UNKNOWN);
        DUE.is("35 no such way", x.tell(-1), UNKNOWN);
        DUE.is("35 no such way", x.tell(6), UNKNOWN);
        DUE.is("38 no body", x.trace(), trace);
    }

    private static void label() {
        LampWays x = kinds();
        DUE.is("36 a chain", x.label(0), 0);
        DUE.is("38 the lent body", x.trace(), 4);
        DUE.is("36 a ring", x.label(1), 1);
        DUE.is("38 the lent body", x.trace(), 4 * 31 + 4);
        DUE.is("36 a strong one", x.label(2), 70);
        DUE.is("38 its own body", x.trace(), (4 * 31 + 4) * 31 + 5);
        int trace = x.trace();
        DUE.is("36 no such way", x.label(3), UNKNOWN);
        DUE.is("36 no such way", x.label(-1), UNKNOWN);
        DUE.is("38 no body", x.trace(), trace);
    }

    private static void as() {
        LampWays x = kinds();
        for (int way = 0; way <= 2; way++) {
            for (int kind = 0; kind <= 2; kind++) {
                DUE.is("37 " + way + " as " + kind, x.as(way, kind), kind <= way ? 1 : -12);
                DUE.is("37 its fault", x.fault(), kind <= way ? 0 : 2);
            }
        }
        x.as(0, 1);
        DUE.is("37 no such kind", x.as(0, 3), OUTSIDE);
        DUE.is("37 its fault", x.fault(), 0);
        DUE.is("37 no such kind", x.as(0, -1), OUTSIDE);
        x.as(0, 1);
        DUE.is("37 no such way", x.as(3, 9), UNKNOWN);
        DUE.is("37 its fault", x.fault(), 0);
        DUE.is("37 no such way", x.as(-1, 0), UNKNOWN);
        DUE.is("38 taken without a body", x.trace(), 0);
    }

    private static void traceWraps() {
        LampWays x = kinds();
        int want = 0;
        for (int t = 0; t < 20; t++) {
            x.tell(0);
            want = want * 31 + 1;
            DUE.is("38 wraps", x.trace(), want);
        }
        DUE.is("38 has wrapped", x.trace(), wrapped(20));
    }

    private static int wrapped(int times) {
        java.math.BigInteger sum = java.math.BigInteger.ZERO;
        for (int t = 0; t < times; t++) {
            sum = sum.multiply(java.math.BigInteger.valueOf(31)).add(java.math.BigInteger.ONE);
        }
        return sum.intValue();
    }

    /** Every call that names a fault tells the latest one anew, every other one leaves it. */
    private static void fault() {
        LampWays x = kinds();
        x.put(0, 0, 0);
        DUE.is("39 nothing", x.fault(), 1);
        DUE.is("39 asked again", x.fault(), 1);
        x.many(9);
        x.ofRun(9, 9);
        x.shut(9, true);
        x.run(0, 1, 0);
        x.along(0, 1, 0);
        x.box(0);
        x.point(0, 1, 0);
        x.ofPoint(0, 0);
        x.load(0, 1);
        x.away(9);
        x.ofWay(0, 0);
        x.cable(0, 0);
        x.carries(0, 9, 0);
        x.drop(0, 9, 0);
        x.tooMuch(0);
        x.least(1, 0);
        x.order(1, 0, 0);
        x.plan(1, 9, false);
        x.on(1, 9, false, 0);
        x.best(1, 9, false);
        x.costs(0, 1, 9, false);
        x.cores(0, 1);
        x.door(0, 1, 0);
        x.reading(0, 0);
        x.back(1);
        x.fits(0);
        x.next();
        x.lose(1);
        x.tell(0);
        x.label(0);
        x.trace();
        DUE.is("39 left by all that name none", x.fault(), 1);
        x.as(0, 0);
        DUE.is("39 as() came to none", x.fault(), 0);
        x.put(0, 0, 0);
        x.sheet(0, 0, 1);
        DUE.is("39 sheet() came to none", x.fault(), 0);
        x.put(0, 1, 0);
        DUE.is("39 the latest one", x.fault(), 3);
        x.put(0, 0, 0);
        DUE.is("39 put() came to none", x.fault(), 0);
        x.put(0, 1, 0);
        x.cell(0, 0, 0);
        DUE.is("39 cell() came to none", x.fault(), 0);
        x.put(0, 1, 0);
        x.copy(0, 0, 0, 0, 1);
        DUE.is("39 copy() came to none", x.fault(), 0);
        x.put(0, 1, 0);
        x.way(0, 9, 0, 0, 0, 1);
        DUE.is("39 way() was refused", x.fault(), 0);
        x.put(0, 1, 0);
        x.house(0, 0, 0, 1);
        DUE.is("39 house() came to none", x.fault(), 0);
        x.put(0, 1, 0);
        x.put(9, 1, 0);
        DUE.is("39 put() was refused", x.fault(), 0);
        x.put(0, 1, 0);
        x.copy(9, 1, 0, 0, 0);
        DUE.is("39 copy() was refused", x.fault(), 0);
        x.put(0, 1, 0);
        x.sheet(9, 1, 0);
        DUE.is("39 sheet() was refused", x.fault(), 0);
        x.put(0, 1, 0);
        x.house(9, 1, 0, 0);
        DUE.is("39 house() was refused", x.fault(), 0);
    }

    private static void many() {
        LampWays x = kinds();
        x.shut(0, true);
        x.reading(1, 0);
        x.reading(1, 0);
        x.away(1);
        int[] want = {2, 1, 1, 8, 2, 2};
        for (int what = 0; what <= 5; what++) {
            DUE.is("40 many(" + what + ")", x.many(what), want[what]);
        }
        DUE.is("40 another number", x.many(6), OUTSIDE);
        DUE.is("40 another number", x.many(-1), OUTSIDE);
        DUE.is("40 another number", x.many(Integer.MIN_VALUE), OUTSIDE);
    }

    public static void main(String[] args) {
        sheet();
        lose();
        put();
        cell();
        copy();
        copyRefused();
        tell();
        label();
        as();
        traceWraps();
        fault();
        many();
        DUE.end();
    }
}
