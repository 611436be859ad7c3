import java.math.BigInteger;

/** The least and the greatest that is taken, and the first on either side that is not: sheets, bodies, the trace. */
public final class SheetsEdgesTest {
    private static final Due DUE = new Due("SheetsEdgesTest");
    private static final int UNKNOWN = LampWays.UNKNOWN, OUTSIDE = LampWays.OUTSIDE;
    private static final long LOST = LampWays.LOST;
    private static final int MIN = Integer.MIN_VALUE, MAX = Integer.MAX_VALUE;

    /** Promise 1: "No HOUSE (no PLACES), SHEETS have nothing." */
    private static void newObject() {
        for (int k = 0; k <= 3; k++) {
            for (int lane = 0; lane <= 2; lane++) {
                LampWays x = new LampWays();
                DUE.is("1 nothing is told at first", x.fault(), 0);
                DUE.is("1 a cell of nothing", x.cell(k, 0, lane), LOST);
                DUE.is("1 a cell of nothing, its fault", x.fault(), 1);
                DUE.is("1 a text of nothing", x.house(k, lane, 0, 0), -11);
                DUE.is("1 a way of nothing", x.way(0, 1, k, lane, 0, 1), -11);
                DUE.is("1 a copy of nothing", x.copy(k, 0, k, 0, 0), -11);
                DUE.is("1 nothing to lose", x.lose(k), 0);
            }
        }
        LampWays x = new LampWays();
        for (int c = 0; c <= 8; c++) {
            DUE.is("1 no place " + c, x.box(c), UNKNOWN);
            DUE.is("1 no run " + c, x.shut(c, true), UNKNOWN);
            DUE.is("1 no point " + c, x.load(c, 1), UNKNOWN);
            DUE.is("1 no way " + c, x.away(c), UNKNOWN);
        }
        for (int what = 0; what <= 5; what++) {
            DUE.is("40 many(" + what + ") of nothing", x.many(what), 0);
        }
        DUE.is("1 no readings to take back", x.back(0), 0);
        DUE.is("26 a reading of no points", x.reading(0, 0), 0);
        DUE.is("28 the one set of no points", x.fits(0), 1);
        DUE.is("28 sure of none", x.fits(1), 0);
        DUE.is("28 never, of none", x.fits(2), 0);
        DUE.is("29 one set", x.next(), LampWays.NONE);
        DUE.is("38 at first", x.trace(), 0);
    }

    /** Objects have nothing in common. */
    private static void apart() {
        LampWays one = Twins.some();
        LampWays other = new LampWays();
        DUE.is("1 another one has no house", other.many(0), 0);
        DUE.is("1 another one has no sheet", other.lose(3), 0);
        DUE.is("1 another one has no trace", other.trace(), 0);
        one.put(0, 0, 0);
        DUE.is("1 another one has no fault", other.fault(), 0);
        Lamps.tell(other, "h2;b0;011");
        DUE.is("1 the one stays", one.many(0), 5);
        DUE.is("1 the one stays", one.cell(3, 1, 0), '5');
    }

    /** "SHEETS 0 .. 3", "a row of 0 .. 100 numbers (0 at first) of a LANE: 0 bytes, 1 shorts, 2 ints". */
    private static void sheetsOfEachLength() {
        for (int lane = -1; lane <= 3; lane++) {
            for (int n = -2; n <= 102; n++) {
                int k = (n + 2) % 4;
                LampWays x = new LampWays();
                boolean outside = lane < 0 || lane > 2 || n > 100;
                int due = outside ? OUTSIDE : n < 0 ? -14 : 1;
                DUE.is("30 sheet of " + n + ", lane " + lane, x.sheet(k, lane, n), due);
                DUE.is("30 its fault", x.fault(), due == -14 ? 4 : 0);
                if (due == 1) {
                    for (int i = 0; i < n; i += 9) {
                        DUE.is("30 0 at first", x.cell(k, i, lane), 0);
                    }
                    DUE.is("33 its last cell", x.cell(k, n - 1, lane), n == 0 ? LOST : 0);
                    DUE.is("33 none behind it", x.cell(k, n, lane), LOST);
                    DUE.is("33 none behind it, its fault", x.fault(), 3);
                    DUE.is("32 its last cell", x.put(k, n - 1, 5), n == 0 ? -13 : 1);
                    DUE.is("32 none behind it", x.put(k, n, 5), -13);
                    DUE.is("33 none ahead of it", x.cell(k, -1, lane), LOST);
                }
                DUE.is("31 whether it had something", x.lose(k), due == 1 ? 1 : 0);
                DUE.is("31 now it has nothing", x.lose(k), 0);
                DUE.is("33 nothing", x.cell(k, 0, Math.max(0, Math.min(lane, 2))), LOST);
                DUE.is("33 nothing, its fault", x.fault(), 1);
            }
        }
        for (int k = -2; k <= 5; k++) {
            boolean there = k >= 0 && k <= 3;
            LampWays x = new LampWays();
            DUE.is("30 sheet " + k, x.sheet(k, 0, 1), there ? 1 : UNKNOWN);
            DUE.is("32 sheet " + k, x.put(k, 0, 1), there ? 1 : UNKNOWN);
            DUE.is("33 sheet " + k, x.cell(k, 0, 0), there ? 1 : LOST);
            DUE.is("34 sheet " + k, x.copy(k, 0, k, 0, 1), there ? 1 : UNKNOWN);
            DUE.is("31 sheet " + k, x.lose(k), there ? 1 : UNKNOWN);
        }
    }

    /** Promise 30: "A SHEET gets a new row": of it nothing is left, of the others all. */
    private static void newRows() {
        LampWays x = new LampWays();
        for (int k = 0; k <= 3; k++) {
            x.sheet(k, 2, 100);
            x.put(k, 0, 1000 + k);
            x.put(k, 99, 2000 + k);
        }
        for (int k = 0; k <= 3; k++) {
            DUE.is("30 all stand", x.cell(k, 0, 2), 1000 + k);
            DUE.is("30 all stand", x.cell(k, 99, 2), 2000 + k);
        }
        x.sheet(1, 2, 100);
        DUE.is("30 anew", x.cell(1, 0, 2), 0);
        DUE.is("30 anew", x.cell(1, 99, 2), 0);
        DUE.is("30 the one ahead", x.cell(0, 99, 2), 2000);
        DUE.is("30 the one behind", x.cell(2, 0, 2), 1002);
        x.sheet(2, 2, 1);
        x.sheet(2, 2, 100);
        DUE.is("30 short and long again", x.cell(2, 99, 2), 0);
        DUE.is("31 lost", x.lose(3), 1);
        x.sheet(3, 2, 100);
        DUE.is("30 lost and anew", x.cell(3, 99, 2), 0);
        DUE.is("31 lost again", x.lose(3), 1);
        DUE.is("30 lost and anew of none", x.sheet(3, 2, 0), 1);
        DUE.is("30 of none no cell is left", x.cell(3, 0, 2), LOST);
        DUE.is("30 of none no cell is left, its fault", x.fault(), 3);
        DUE.is("30 of none no cell is put", x.put(3, 0, 1), -13);
        DUE.is("30 of none one is copied", x.copy(3, 0, 3, 0, 1), -13);
        DUE.is("30 of none a text is read", x.house(3, 2, 0, 1), -13);
    }

    /** "what comes to a cell of it is cut to its LANE". */
    private static void cut() {
        int[] values = {
            0, 1, -1, 127, 128, -128, -129, 255, 256, -255, -256, 32767, 32768, -32768, -32769, 65535, 65536, -65536,
            MAX, MIN, MAX - 1, MIN + 1, 0x12345678,
        };
        int[] bytes = {
            0, 1, -1, 127, -128, -128, 127, -1, 0, 1, 0, -1, 0, 0, -1, -1, 0, 0,
            -1, 0, -2, 1, 0x78,
        };
        int[] shorts = {
            0, 1, -1, 127, 128, -128, -129, 255, 256, -255, -256, 32767, -32768, -32768, 32767, -1, 0, 0,
            -1, 0, -2, 1, 0x5678,
        };
        LampWays x = new LampWays();
        for (int lane = 0; lane <= 2; lane++) {
            x.sheet(lane, lane, 3);
            for (int t = 0; t < values.length; t++) {
                int due = lane == 0 ? bytes[t] : lane == 1 ? shorts[t] : values[t];
                DUE.is("32 " + values[t] + " to lane " + lane, x.put(lane, 1, values[t]), 1);
                DUE.is("32 " + values[t] + " in lane " + lane, x.cell(lane, 1, lane), due);
            }
            DUE.is("32 the cell ahead", x.cell(lane, 0, lane), 0);
            DUE.is("32 the cell behind", x.cell(lane, 2, lane), 0);
        }
    }

    /** Promise 34: "n cells of a SHEET from i on go to another one (perhaps the same) from j on, as they were: n". */
    private static void copies() {
        int length = 5;
        for (int same = 0; same <= 1; same++) {
            for (int i = -1; i <= length + 1; i++) {
                for (int j = -1; j <= length + 1; j++) {
                    for (int n = -1; n <= length + 1; n++) {
                        copyOnce(length, same == 1, i, j, n);
                    }
                }
            }
        }
    }

    private static void copyOnce(int length, boolean same, int i, int j, int n) {
        LampWays x = new LampWays();
        Twins.fill(x, 0, 1, 10, 11, 12, 13, 14);
        Twins.fill(x, 1, 1, 20, 21, 22, 23, 24);
        int other = same ? 0 : 1;
        boolean taken = i >= 0 && j >= 0 && n >= 0 && i + n <= length && j + n <= length;
        String call = "34 copy(0, " + i + ", " + other + ", " + j + ", " + n + ")";
        DUE.is(call, x.copy(0, i, other, j, n), taken ? n : -13);
        DUE.is(call + ", its fault", x.fault(), taken ? 0 : 3);
        for (int t = 0; t < length; t++) {
            boolean changed = taken && t >= j && t < j + n;
            int was = 10 + 10 * other + t;
            DUE.is(call + ", cell " + t, x.cell(other, t, 1), changed ? 10 + i + t - j : was);
            if (!same) {
                DUE.is(call + ", cell " + t + " of the first", x.cell(0, t, 1), 10 + t);
            }
        }
    }

    /** The longest copies, between sheets of unlike lengths, of none at their ends. */
    private static void copiesOfWholeSheets() {
        LampWays x = new LampWays();
        for (int k = 0; k <= 3; k++) {
            x.sheet(k, 2, k == 3 ? 0 : 100);
        }
        x.put(0, 0, MIN);
        x.put(0, 99, MAX);
        DUE.is("34 all of a hundred", x.copy(0, 0, 2, 0, 100), 100);
        DUE.is("34 the first", x.cell(2, 0, 2), MIN);
        DUE.is("34 the last", x.cell(2, 99, 2), MAX);
        DUE.is("34 the sheet between", x.cell(1, 99, 2), 0);
        DUE.is("34 all but one, on", x.copy(2, 0, 2, 1, 99), 99);
        DUE.is("34 the second", x.cell(2, 1, 2), MIN);
        DUE.is("34 the last", x.cell(2, 99, 2), 0);
        DUE.is("34 a hundred and one", x.copy(0, 0, 2, 0, 101), -13);
        DUE.is("34 none to none", x.copy(3, 0, 3, 0, 0), 0);
        DUE.is("34 none to none, no fault", x.fault(), 0);
        DUE.is("34 none from the end to none", x.copy(0, 100, 3, 0, 0), 0);
        DUE.is("34 none past the end to none", x.copy(0, 101, 3, 0, 0), -13);
        DUE.is("34 none to past none", x.copy(0, 100, 3, 1, 0), -13);
        DUE.is("34 one to none", x.copy(0, 0, 3, 0, 1), -13);
        DUE.is("34 one of none", x.copy(3, 0, 0, 0, 1), -13);
    }

    /** "CHAIN (1): how many POINTS it has. RING (2): and 100. STRONG (3)": of one point, of six. */
    private static void telling() {
        for (int kind = 0; kind <= 2; kind++) {
            for (int n = 1; n <= 6; n++) {
                LampWays x = Lamps.lit("h2;b0;011", 1, 1, 1, 1, 1, 1);
                int[] row = new int[n];
                for (int j = 0; j < n; j++) {
                    row[j] = j;
                }
                Lamps.lay(x, kind, 9, row);
                DUE.is("35 kind " + kind + " of " + n, x.tell(0), kind == 0 ? n : kind == 1 ? n + 100 : 2 * n + 100);
                DUE.is("38 kind " + kind, x.trace(), new int[] {1, 2 * 31 + 1, ((3 * 31 + 2) * 31 + 1) * 31 + 1}[kind]);
                x.shut(0, true);
                DUE.is("35 though a run is not there", x.tell(0), kind == 0 ? n : kind == 1 ? n + 100 : 2 * n + 100);
            }
        }
    }

    /** "LABELLED by a lent body (4): its number; STRONG ones have their own (5): 70": the first and the last way. */
    private static void labels() {
        for (int kind = 0; kind <= 2; kind++) {
            LampWays x = Lamps.lit("h2;b0;011", 1, 1, 1, 1, 1, 1);
            int trace = 0;
            for (int way = 0; way < 6; way++) {
                Lamps.lay(x, kind, 9, way);
                DUE.is("36 way " + way + " of kind " + kind, x.label(way), kind == 2 ? 70 : way);
                trace = 31 * trace + (kind == 2 ? 5 : 4);
                DUE.is("38 its body", x.trace(), trace);
                DUE.is("36 no way " + (way + 1), x.label(way + 1), UNKNOWN);
            }
        }
    }

    /** "TRACE (an int that wraps, 0 at first, becomes 31 times it and the number)": till the 512th call. */
    private static void traceWraps() {
        LampWays x = Lamps.lit("h2;b0;011", 1, 1, 1);
        for (int kind = 0; kind <= 2; kind++) {
            Lamps.lay(x, kind, 9, kind);
        }
        int calls = 11 + 3 + 3 * 3;
        BigInteger trace = BigInteger.ZERO;
        int[][] bodies = {{1}, {2, 1}, {3, 2, 1, 1}, {4}, {4}, {5}};
        boolean below = false;
        for (int t = 0; calls + 2 <= 512; t++, calls += 2) {
            int way = t % 3;
            boolean tells = t % 2 == 0;
            DUE.is("38 call " + calls, tells ? x.tell(way) : x.label(way),
                    tells ? new int[] {1, 101, 102}[way] : way == 2 ? 70 : way);
            for (int body : bodies[tells ? way : way + 3]) {
                trace = trace.multiply(BigInteger.valueOf(31)).add(BigInteger.valueOf(body));
            }
            below |= trace.intValue() < 0;
            DUE.is("38 wraps, call " + calls, x.trace(), trace.intValue());
        }
        DUE.holds("38 has wrapped below 0", below);
    }

    /** Promise 37: "A WAY, taken as one of a kind: 1": each as each. */
    private static void as() {
        for (int kind = 0; kind <= 2; kind++) {
            LampWays x = Lamps.lit("h2;b0;011", 1);
            Lamps.lay(x, kind, 9, 0);
            for (int as = -1; as <= 3; as++) {
                int due = as < 0 || as > 2 ? OUTSIDE : as <= kind ? 1 : -12;
                DUE.is("37 kind " + kind + " as " + as, x.as(0, as), due);
                DUE.is("37 kind " + kind + " as " + as + ", its fault", x.fault(), due == -12 ? 2 : 0);
            }
            DUE.is("38 taken without a body", x.trace(), 0);
        }
    }

    /** Promise 39: "0: it came to none, or was refused": each call that names a fault, behind each fault. */
    private static void faultOfTheLatest() {
        Twins.Call[] faulty = {
            x -> x.put(0, 0, 0), x -> x.as(0, 1), x -> x.put(1, 4, 0), x -> x.sheet(1, 0, -1),
        };
        Twins.Call[] clean = {
            x -> x.house(3, 0, 0, 33), x -> x.house(3, 0, 0, 0), x -> x.house(4, 0, 0, 0), x -> x.house(3, 3, 0, 0),
            x -> x.way(0, 9, 2, 2, 0, 1), x -> x.way(0, 9, 2, 2, 0, 0), x -> x.way(0, 9, 2, 2, 0, 3),
            x -> x.way(0, 9, 2, 2, 4, 1), x -> x.way(3, 9, 2, 2, 0, 1), x -> x.way(0, 9, 4, 2, 0, 1),
            x -> x.sheet(1, 0, 100), x -> x.sheet(1, 0, 0), x -> x.sheet(1, 0, 101), x -> x.sheet(1, 3, 1),
            x -> x.sheet(4, 0, 1), x -> x.put(1, 3, 0), x -> x.put(4, 0, 0), x -> x.cell(1, 3, 1), x -> x.cell(1, 0, 3),
            x -> x.cell(4, 0, 0), x -> x.copy(1, 4, 1, 4, 0), x -> x.copy(1, 0, 1, 0, 4), x -> x.copy(4, 0, 1, 0, 0),
            x -> x.as(0, 0), x -> x.as(0, 3), x -> x.as(1, 0),
        };
        for (int t = 0; t < faulty.length; t++) {
            for (int u = 0; u < clean.length; u++) {
                LampWays x = Twins.some();
                DUE.is("39 fault " + (t + 1), faulty[t].of(x), -11 - t);
                DUE.is("39 fault " + (t + 1) + " is told", x.fault(), t + 1);
                clean[u].of(x);
                DUE.is("39 fault " + (t + 1) + " behind call " + u, x.fault(), 0);
            }
            for (int u = 0; u < faulty.length; u++) {
                LampWays x = Twins.some();
                faulty[t].of(x);
                faulty[u].of(x);
                DUE.is("39 of two the latest", x.fault(), u + 1);
            }
        }
    }

    /** Promise 40: "How many": none, and as many as there may be. */
    private static void many() {
        LampWays x = new LampWays();
        StringBuilder text = new StringBuilder("h8;b0");
        for (int k = 0; k < 14; k++) {
            text.append(";011");
        }
        Lamps.tell(x, text.toString());
        for (int k = 0; k < 14; k++) {
            x.shut(k, true);
        }
        for (int p = 0; p < 8; p++) {
            x.point(p, 1, 0);
        }
        for (int way = 0; way < 6; way++) {
            Lamps.lay(x, 0, 9, way);
        }
        for (int k = 0; k < 12; k++) {
            x.reading(0, 0);
        }
        int[] most = {8, 14, 14, 8, 6, 12};
        for (int what = -1; what <= 6; what++) {
            DUE.is("40 at most, " + what, x.many(what), what < 0 || what > 5 ? OUTSIDE : most[what]);
        }
    }

    public static void main(String[] args) {
        newObject();
        apart();
        sheetsOfEachLength();
        newRows();
        cut();
        copies();
        copiesOfWholeSheets();
        telling();
        labels();
        traceWraps();
        as();
        faultOfTheLatest();
        many();
        DUE.end();
    }
}
