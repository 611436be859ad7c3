/** The least and the greatest that is taken, and the first on either side that is not: points, ways, pieces. */
public final class WaysEdgesTest {
    private static final Due DUE = new Due("WaysEdgesTest");
    private static final int NONE = LampWays.NONE, UNKNOWN = LampWays.UNKNOWN, OUTSIDE = LampWays.OUTSIDE,
            STATE = LampWays.STATE, FULL = LampWays.FULL;
    private static final long LOST = LampWays.LOST;
    /** Eight places in a row, nine yards and nine drilled from each to the next: from 0 to 7 it is 63 of both. */
    private static final String LONGEST = "h8;b0;019d9;129d9;239d9;349d9;459d9;569d9;679d9";

    private static void share(String what, LampWays x, int way, int piece, long upper, long lower) {
        DUE.is("15 " + what + ", piece " + piece + ", upper", x.carries(way, piece, 0), upper);
        DUE.is("15 " + what + ", piece " + piece + ", lower", x.carries(way, piece, 1), lower);
    }

    private static void lossAt(String what, LampWays x, int way, int k, long upper, long lower) {
        DUE.is("16 " + what + ", point " + k + ", upper", x.drop(way, k, 0), upper);
        DUE.is("16 " + what + ", point " + k + ", lower", x.drop(way, k, 1), lower);
    }

    /** "a PLACE, a LOAD (1 .. 20), a ROOM (0 .. 5)". */
    private static void pointsOfEachNumber() {
        for (int n = 2; n <= 8; n++) {
            for (int c = -1; c <= 8; c++) {
                LampWays x = Lamps.told("h" + n + ";b0;011");
                boolean taken = c >= 0 && c < n;
                DUE.is("8 place " + c + " of " + n, x.point(c, 1, 0), taken ? 0 : UNKNOWN);
                DUE.is("9 place " + c + " of " + n, x.ofPoint(0, 0), taken ? c : UNKNOWN);
            }
        }
        for (int v = -2; v <= 23; v++) {
            LampWays x = Lamps.told("h2;b0;011");
            boolean taken = v >= 1 && v <= 20;
            DUE.is("8 load " + v, x.point(1, v, 0), taken ? 0 : OUTSIDE);
            DUE.is("9 load " + v, x.ofPoint(0, 1), taken ? v : UNKNOWN);
            x.point(0, 13, 5);
            int p = x.many(3) - 1;
            DUE.is("10 load becomes " + v, x.load(p, v), taken ? 13 : OUTSIDE);
            DUE.is("10 load is " + v, x.ofPoint(p, 1), taken ? v : 13);
            DUE.is("10 its room stays", x.ofPoint(p, 2), 5);
        }
        for (int room = -2; room <= 8; room++) {
            LampWays x = Lamps.told("h2;b0;011");
            boolean taken = room >= 0 && room <= 5;
            DUE.is("8 room " + room, x.point(1, 20, room), taken ? 0 : OUTSIDE);
            DUE.is("9 room " + room, x.ofPoint(0, 2), taken ? room : UNKNOWN);
            DUE.is("9 of no way", x.ofPoint(0, 3), taken ? NONE : UNKNOWN);
        }
    }

    /** "POINTS, 8 ever, numbered as they come": none, one, eight, and one more. */
    private static void eightPoints() {
        LampWays x = Lamps.told("h3;b0;011");
        DUE.is("40 none", x.many(3), 0);
        DUE.is("9 none", x.ofPoint(0, 0), UNKNOWN);
        for (int p = 0; p < 8; p++) {
            DUE.is("8 as they come", x.point(p % 3, p + 1, p % 6), p);
            DUE.is("40 so many", x.many(3), p + 1);
            DUE.is("9 none behind it", x.ofPoint(p + 1, 0), UNKNOWN);
        }
        for (int t = 0; t < 3; t++) {
            DUE.is("8 one more", x.point(0, 20, 5), FULL);
        }
        DUE.is("40 eight", x.many(3), 8);
        for (int p = 0; p < 8; p++) {
            DUE.is("9 its place", x.ofPoint(p, 0), p % 3);
            DUE.is("9 its load", x.ofPoint(p, 1), p + 1);
            DUE.is("9 its room", x.ofPoint(p, 2), p % 6);
        }
        DUE.is("10 the last one's load", x.load(7, 20), 8);
        DUE.is("10 a ninth one's", x.load(8, 20), UNKNOWN);
    }

    /** "each with a FUSE (1 .. 99)", "of a kind: 0 CHAIN; 1 RING, a CHAIN; 2 STRONG, a RING". */
    private static void waysOfEachNumber() {
        for (int fuse = -1; fuse <= 101; fuse++) {
            LampWays x = Lamps.lit("h2;b0;011", 1);
            boolean taken = fuse >= 1 && fuse <= 99;
            DUE.is("11 fuse " + fuse, Lamps.lay(x, 0, fuse, 0), taken ? 0 : OUTSIDE);
            DUE.is("13 fuse " + fuse, x.ofWay(0, 1), taken ? fuse : UNKNOWN);
            DUE.is("9 fuse " + fuse + ", whose the point is", x.ofPoint(0, 3), taken ? 0 : NONE);
        }
        for (int kind = -1; kind <= 4; kind++) {
            LampWays x = Lamps.lit("h2;b0;011", 1);
            boolean taken = kind >= 0 && kind <= 2;
            DUE.is("11 kind " + kind, Lamps.lay(x, kind, 1, 0), taken ? 0 : OUTSIDE);
            DUE.is("13 kind " + kind, x.ofWay(0, 0), taken ? kind : UNKNOWN);
            DUE.is("13 pieces of kind " + kind, x.ofWay(0, 3), !taken ? UNKNOWN : kind == 0 ? 1 : 2);
            DUE.is("40 ways", x.many(4), taken ? 1 : 0);
        }
    }

    /** "of a row of 1 to 6 POINTS, one after another"; "10 and k: its k-th POINT". */
    private static void rowsOfPoints() {
        for (int kind = 0; kind <= 2; kind++) {
            for (int n = 0; n <= 8; n++) {
                LampWays x = Lamps.lit("h2;b0;011", 1, 0, 1, 0, 1, 0, 1, 0);
                int[] row = new int[n];
                for (int j = 0; j < n; j++) {
                    row[j] = 7 - j;
                }
                boolean taken = n >= 1 && n <= 6;
                DUE.is("11 a row of " + n, Lamps.lay(x, kind, 9, row), taken ? 0 : OUTSIDE);
                DUE.is("11 a row of " + n + ", no fault", x.fault(), 0);
                DUE.is("13 how many", x.ofWay(0, 2), taken ? n : UNKNOWN);
                DUE.is("13 pieces", x.ofWay(0, 3), !taken ? UNKNOWN : kind == 0 ? n : n + 1);
                for (int k = 0; k < 8; k++) {
                    int stop = !taken ? UNKNOWN : k < n ? 7 - k : OUTSIDE;
                    DUE.is("13 the " + k + "-th of " + n, x.ofWay(0, 10 + k), stop);
                    DUE.is("9 whose point " + (7 - k) + " is", x.ofPoint(7 - k, 3), taken && k < n ? 0 : NONE);
                }
                for (int what : new int[] {4, 5, 6, 7, 8, 9}) {
                    DUE.is("13 what " + what, x.ofWay(0, what), taken ? OUTSIDE : UNKNOWN);
                }
                DUE.is("12 how many it had", x.away(0), taken ? n : UNKNOWN);
            }
        }
    }

    /** "none twice": each two of six cells. */
    private static void noneTwice() {
        for (int a = 0; a < 6; a++) {
            for (int b = a + 1; b < 6; b++) {
                LampWays x = Lamps.lit("h2;b0;011", 1, 0, 1, 0, 1, 0, 1, 0);
                int[] row = {7, 6, 5, 4, 3, 2};
                row[b] = row[a];
                DUE.is("11 cells " + a + ", " + b + " alike", Lamps.lay(x, 0, 9, row), STATE);
                DUE.is("11 no way", x.many(4), 0);
                DUE.is("11 its first point is free", x.ofPoint(7, 3), NONE);
                row[b] = 0;
                DUE.is("11 all unlike", Lamps.lay(x, 0, 9, row), 0);
            }
        }
    }

    /** "none of another WAY that is there": each of six cells; free again when the other one is taken AWAY. */
    private static void noneOfAnotherWay() {
        for (int a = 0; a < 6; a++) {
            LampWays x = Lamps.lit("h2;b0;011", 1, 0, 1, 0, 1, 0, 1, 0);
            DUE.is("11 the other one", Lamps.lay(x, 1, 9, 2 + a), 0);
            DUE.is("11 cell " + a + " of another way", Lamps.lay(x, 0, 9, 2, 3, 4, 5, 6, 7), STATE);
            DUE.is("11 still the other's", x.ofPoint(2 + a, 3), 0);
            DUE.is("12 the other one goes", x.away(0), 1);
            DUE.is("11 now it is free", Lamps.lay(x, 0, 9, 2, 3, 4, 5, 6, 7), 1);
            DUE.is("9 its way", x.ofPoint(2 + a, 3), 1);
            DUE.is("9 of no way", x.ofPoint(0, 3), NONE);
        }
    }

    /** A point of each cell: not there, just past the last, below 0; cut to its lane it may be one that is there. */
    private static void pointsNotThere() {
        for (int a = 0; a < 6; a++) {
            for (int v : new int[] {-1, 7, 8, 256, 65536, Integer.MAX_VALUE, Integer.MIN_VALUE}) {
                LampWays x = Lamps.lit("h2;b0;011", 1, 0, 1, 0, 1, 0, 1);
                int[] row = {1, 2, 3, 4, 5, 6};
                row[a] = v;
                DUE.is("11 point " + v + " in cell " + a, Lamps.lay(x, 0, 9, row), UNKNOWN);
                DUE.is("11 no way", x.many(4), 0);
            }
        }
        for (int lane = 0; lane <= 2; lane++) {
            LampWays x = Lamps.lit("h2;b0;011", 1, 0);
            Twins.fill(x, 0, lane, 256, 65536 + 1, 65536 * 256);
            DUE.is("11 256 in lane " + lane, x.way(0, 9, 0, lane, 0, 1), lane == 0 ? 0 : UNKNOWN);
            DUE.is("11 65537 in lane " + lane, x.way(0, 9, 0, lane, 1, 1), lane == 0 ? 1 : lane == 1 ? 0 : UNKNOWN);
            DUE.is("11 both in lane " + lane, x.way(0, 9, 0, lane, 1, 2), lane == 2 ? UNKNOWN : STATE);
        }
    }

    /** "WAYS, 6 ever, numbered as they come"; "taken AWAY .. (its number is not given again)". */
    private static void sixWays() {
        LampWays x = Lamps.lit("h2;b0;011", 1, 0, 1, 0, 1, 0, 1);
        for (int way = 0; way < 6; way++) {
            DUE.is("11 as they come", Lamps.lay(x, way % 3, way + 1, way), way);
            DUE.is("40 so many", x.many(4), way + 1);
            DUE.is("13 its fuse", x.ofWay(way, 1), way + 1);
        }
        DUE.is("11 one more", Lamps.lay(x, 0, 9, 6), FULL);
        DUE.is("40 six", x.many(4), 6);
        for (int way = 0; way < 6; way++) {
            DUE.is("12 away", x.away(way), 1);
            DUE.is("12 away again", x.away(way), UNKNOWN);
            DUE.is("40 so many are there", x.many(4), 5 - way);
            DUE.is("11 one more, though there are fewer", Lamps.lay(x, 0, 9, 6), FULL);
        }
        LampWays again = Lamps.lit("h2;b0;011", 1);
        for (int way = 0; way < 6; way++) {
            DUE.is("11 one after another", Lamps.lay(again, way % 3, 9, 0), way);
            DUE.is("9 its way", again.ofPoint(0, 3), way);
            DUE.is("12 away", again.away(way), 1);
            DUE.is("9 of no way", again.ofPoint(0, 3), NONE);
        }
        DUE.is("11 a seventh", Lamps.lay(again, 0, 9, 0), FULL);
        DUE.is("11 a seventh, no fault", again.fault(), 0);
    }

    /** Promise 11: "n such cells" from i on: the first and the last ones of a sheet. */
    private static void cellsOfTheRow() {
        for (int lane = 0; lane <= 2; lane++) {
            LampWays x = Lamps.lit("h2;b0;011", 1, 0, 1);
            x.sheet(3, lane, 100);
            x.put(3, 99, 1);
            x.put(3, 98, 2);
            DUE.is("11 past the last cell", x.way(0, 9, 3, lane, 99, 2), -13);
            DUE.is("11 none at the end", x.way(0, 9, 3, lane, 100, 0), OUTSIDE);
            DUE.is("11 none past the end", x.way(0, 9, 3, lane, 101, 0), -13);
            DUE.is("11 the last two", x.way(0, 9, 3, lane, 98, 2), 0);
            DUE.is("13 in their order", x.ofWay(0, 10), 2);
            DUE.is("13 in their order", x.ofWay(0, 11), 1);
            DUE.is("11 the first one", x.way(0, 9, 3, lane, 0, 1), 1);
            x.put(3, 99, 0);
            x.lose(3);
            DUE.is("13 as its cells were", x.ofWay(0, 11), 1);
        }
    }

    /** All pieces as long as they can be: CABLE, DRILLS, CARRIES, DROP at their greatest. */
    private static void greatest() {
        for (int kind = 0; kind <= 2; kind++) {
            LampWays x = Lamps.told(LONGEST);
            for (int p = 0; p < 6; p++) {
                x.point(p % 2 == 0 ? 7 : 0, 20, 0);
            }
            Lamps.lay(x, kind, 99, 0, 1, 2, 3, 4, 5);
            DUE.is("14 the longest", x.cable(0, 0), kind == 2 ? 756 : 378);
            DUE.is("14 the most drilled", x.cable(0, 1), 378);
            int sum = 0;
            for (int piece = 0; piece < (kind == 0 ? 6 : 7); piece++) {
                int carried = (kind == 0 ? 120 : 50) - 20 * piece;
                share("kind " + kind, x, 0, piece, carried, 1);
                if (piece < 6) {
                    sum += 63 * carried;
                    boolean odd = kind == 2 && sum % 2 != 0;
                    lossAt("kind " + kind, x, 0, piece, kind == 2 && !odd ? sum / 2 : sum, odd ? 2 : 1);
                }
            }
            DUE.is("15 no piece more", x.carries(0, kind == 0 ? 6 : 7, 0), LOST);
            DUE.is("16 no point more", x.drop(0, 6, 0), LOST);
            DUE.is("17 its fuse", x.tooMuch(0), kind == 0 ? 0 : NONE);
        }
    }

    /** The least: a point at the box needs no cable and loses nothing, whatever it draws. */
    private static void least() {
        for (int kind = 0; kind <= 2; kind++) {
            for (int v = 1; v <= 20; v += 19) {
                LampWays x = Lamps.told("h2;b1;019d9");
                x.point(1, v, 0);
                Lamps.lay(x, kind, 19, 0);
                DUE.is("14 no yards", x.cable(0, 0), 0);
                DUE.is("14 no drilled", x.cable(0, 1), 0);
                share("at the box", x, 0, 0, v, 1);
                lossAt("at the box", x, 0, 0, 0, 1);
                DUE.is("17 at the box", x.tooMuch(0), v == 20 ? 0 : NONE);
                if (kind > 0) {
                    share("at the box, back", x, 0, 1, 0, 1);
                }
                x.shut(0, true);
                DUE.is("14 no run is needed", x.cable(0, 0), 0);
                DUE.is("17 no run is needed", x.tooMuch(0), v == 20 ? 0 : NONE);
            }
        }
    }

    /** "if all are 0, all by the first PIECE": not so, as soon as one yard is there. */
    private static void ringOfNoYards() {
        LampWays x = Lamps.told("h3;b0;011;129");
        x.point(0, 3, 0);
        x.point(0, 4, 0);
        x.point(0, 5, 0);
        x.point(1, 6, 0);
        Lamps.lay(x, 1, 9, 0, 1, 2);
        int[] all = {12, 9, 5, 0};
        for (int piece = 0; piece <= 3; piece++) {
            share("no yards", x, 0, piece, all[piece], 1);
        }
        DUE.is("17 no yards, by the first", x.tooMuch(0), 0);
        x.box(1);
        int[] half = {12, 9, 5, 0};
        for (int piece = 0; piece <= 3; piece++) {
            share("a yard on either side", x, 0, piece, half[piece] - 6, 1);
        }
        x.box(0);
        x.away(0);
        Lamps.lay(x, 1, 9, 0, 3, 1);
        share("a yard there, a yard back", x, 1, 0, 6, 1);
        share("a yard there, a yard back", x, 1, 1, 3, 1);
        share("a yard there, a yard back", x, 1, 2, -3, 1);
        share("a yard there, a yard back", x, 1, 3, -7, 1);
    }

    /** "Shares are told as upper and lower number (above 0) in least terms": above, at and below nothing. */
    private static void sharesInLeastTerms() {
        LampWays x = Lamps.told("h3;b0;014;124;204");
        x.point(1, 6, 0);
        x.point(2, 6, 0);
        Lamps.lay(x, 1, 9, 0, 1);
        share("even", x, 0, 0, 6, 1);
        share("nothing", x, 0, 1, 0, 1);
        share("the other way", x, 0, 2, -6, 1);
        lossAt("even", x, 0, 0, 24, 1);
        lossAt("nothing more", x, 0, 1, 24, 1);
        x.load(1, 7);
        share("thirds", x, 0, 0, 19, 3);
        share("a third", x, 0, 1, 1, 3);
        share("thirds, the other way", x, 0, 2, -20, 3);
        lossAt("thirds", x, 0, 0, 76, 3);
        lossAt("thirds", x, 0, 1, 80, 3);
        x.away(0);
        Lamps.lay(x, 2, 9, 1, 0);
        share("strong", x, 1, 0, 20, 3);
        share("strong", x, 1, 1, -1, 3);
        share("strong", x, 1, 2, -19, 3);
        lossAt("strong, half of it", x, 1, 0, 40, 3);
        lossAt("strong, half of it", x, 1, 1, 38, 3);
        LampWays even = Lamps.told("h3;b0;011;121;202");
        even.point(1, 1, 0);
        even.point(2, 2, 0);
        Lamps.lay(even, 2, 9, 0, 1);
        share("a lower number of 4", even, 0, 0, 7, 4);
        share("a lower number of 4", even, 0, 1, 3, 4);
        share("a lower number of 4", even, 0, 2, -5, 4);
        lossAt("a lower number of 8", even, 0, 0, 7, 8);
        lossAt("in least terms", even, 0, 1, 5, 4);
    }

    /** "DRILLS: all DRILLED of them (each PIECE's on its own)"; "(of a STRONG one twice as many)" yards. */
    private static void cableOfEachPiece() {
        LampWays x = Lamps.told("h3;b0;012d3;124d5");
        x.point(2, 1, 0);
        x.point(0, 1, 0);
        x.point(1, 1, 0);
        for (int kind = 0; kind <= 2; kind++) {
            Lamps.lay(x, kind, 9, 0, 1, 2);
            int yards = kind == 0 ? 14 : 16;
            DUE.is("14 there, back and there, kind " + kind, x.cable(kind, 0), kind == 2 ? 2 * yards : yards);
            DUE.is("14 drilled, kind " + kind, x.cable(kind, 1), kind == 0 ? 19 : 22);
            x.away(kind);
        }
    }

    /** "TOO MUCH: the first PIECE that CARRIES more than FUSE (either way)": as much is not more. */
    private static void tooMuch() {
        for (int fuse = 1; fuse <= 99; fuse++) {
            LampWays x = Lamps.told(LONGEST);
            for (int p = 0; p < 6; p++) {
                x.point(p % 2 == 0 ? 7 : 0, 20, 0);
            }
            Lamps.lay(x, 0, fuse, 0, 1, 2, 3, 4);
            DUE.is("17 a chain of 100, fuse " + fuse, x.tooMuch(0), 0);
            x.load(4, 19);
            DUE.is("17 a chain of 99, fuse " + fuse, x.tooMuch(0), fuse == 99 ? NONE : 0);
            x.load(4, 20);
            x.away(0);
            Lamps.lay(x, 1, fuse, 0, 1, 2, 3, 4, 5);
            DUE.is("17 a ring of 50 and -70, fuse " + fuse, x.tooMuch(1), fuse < 50 ? 0 : fuse < 70 ? 6 : NONE);
        }
        LampWays ring = Lamps.told("h3;b0;012;121;201");
        ring.point(1, 1, 0);
        ring.point(2, 20, 0);
        Lamps.lay(ring, 1, 15, 0, 1);
        DUE.is("17 by a half, the other way", ring.tooMuch(0), 2);
        ring.away(0);
        Lamps.lay(ring, 1, 16, 0, 1);
        DUE.is("17 a half less", ring.tooMuch(1), NONE);
        ring.away(1);
        Lamps.lay(ring, 2, 5, 0, 1);
        DUE.is("17 by a half", ring.tooMuch(2), 0);
        ring.shut(0, true);
        DUE.is("14 as long by the other two", ring.cable(2, 0), 8);
    }

    /** "STATE: a RUN is not there": of each piece, of each kind; there again, when it opens. */
    private static void runsNotThere() {
        for (int kind = 0; kind <= 2; kind++) {
            for (int cut = 0; cut < 3; cut++) {
                LampWays x = Lamps.lit("h4;b0;011d1;121d1;231d1", 1, 2, 3);
                Lamps.lay(x, kind, 9, 0, 1, 2);
                int yards = x.cable(0, 0);
                x.shut(cut, true);
                DUE.is("14 cut " + cut, x.cable(0, 0), STATE);
                DUE.is("14 cut " + cut, x.cable(0, 1), STATE);
                DUE.is("17 cut " + cut, x.tooMuch(0), STATE);
                for (int k = 0; k < 3; k++) {
                    DUE.is("15 cut " + cut, x.carries(0, k, 0), LOST);
                    DUE.is("15 cut " + cut, x.carries(0, k, 1), LOST);
                    DUE.is("16 cut " + cut, x.drop(0, k, 0), LOST);
                    DUE.is("16 cut " + cut, x.drop(0, k, 1), LOST);
                }
                DUE.is("13 still there", x.ofWay(0, 0), kind);
                x.shut(cut, false);
                DUE.is("14 open again", x.cable(0, 0), yards);
                DUE.is("14 open again", yards, new int[] {3, 6, 12}[kind]);
            }
        }
        LampWays beside = Lamps.lit("h4;b0;011;231", 1);
        Lamps.lay(beside, 0, 9, 0);
        DUE.is("14 others' runs do not matter", beside.cable(0, 0), 1);
        beside.box(2);
        DUE.is("14 from another box", beside.cable(0, 0), STATE);
    }

    public static void main(String[] args) {
        pointsOfEachNumber();
        eightPoints();
        waysOfEachNumber();
        rowsOfPoints();
        noneTwice();
        noneOfAnotherWay();
        pointsNotThere();
        sixWays();
        cellsOfTheRow();
        greatest();
        least();
        ringOfNoYards();
        sharesInLeastTerms();
        cableOfEachPiece();
        tooMuch();
        runsNotThere();
        DUE.end();
    }
}
