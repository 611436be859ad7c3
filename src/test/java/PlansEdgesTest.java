/** The least and the greatest that is taken, and the first on either side that is not: orders, plans, doors. */
public final class PlansEdgesTest {
    private static final Due DUE = new Due("PlansEdgesTest");
    private static final int NONE = LampWays.NONE, UNKNOWN = LampWays.UNKNOWN, OUTSIDE = LampWays.OUTSIDE,
            STATE = LampWays.STATE;
    /** Eight places in a row, a yard from each to the next. */
    private static final String ROW = "h8;b0;011;121;231;341;451;561;671";
    private static final String LONGEST = "h8;b0;019d9;129d9;239d9;349d9;459d9;569d9;679d9";

    private static LampWays loads(String text, int[] places, int... loads) {
        LampWays x = Lamps.told(text);
        for (int p = 0; p < loads.length; p++) {
            x.point(places[p], loads[p], 0);
        }
        return x;
    }

    private static int[] all(int n, int place) {
        int[] places = new int[n];
        java.util.Arrays.fill(places, place);
        return places;
    }

    private static void order(String what, LampWays x, int set, int kind, int... want) {
        for (int k = -1; k <= 8; k++) {
            int due = k < 0 || k > 7 ? UNKNOWN : k < want.length ? want[k] : NONE;
            DUE.is("19 " + what + ", k " + k, x.order(set, kind, k), due);
        }
    }

    private static void rowOfPlan(String what, LampWays x, int w, int f, boolean dark, int... want) {
        for (int p = 0; p < want.length; p++) {
            DUE.is("21 " + what + ", point " + p, x.on(w, f, dark, p), want[p]);
        }
    }

    /** "Sets of 1 to 8"; "OUTSIDE: set (empty, a bit of none)": of none, one, each number of points. */
    private static void setsOfPoints() {
        for (int n = 0; n <= 8; n++) {
            LampWays x = Lamps.told(ROW);
            for (int p = 0; p < n; p++) {
                x.point(p, 1, 0);
            }
            DUE.is("18 empty of " + n, x.least(0, 0), OUTSIDE);
            DUE.is("19 empty of " + n, x.order(0, 0, 0), OUTSIDE);
            DUE.is("18 all of " + n, x.least((1 << n) - 1, 0), n == 0 ? OUTSIDE : n - 1);
            DUE.is("18 all of " + n + " in a ring", x.least((1 << n) - 1, 1), n == 0 ? OUTSIDE : 2 * n - 2);
            DUE.is("19 all of " + n + ", the last", x.order((1 << n) - 1, 0, 7), n == 0 ? OUTSIDE : n == 8 ? 7 : NONE);
            for (int p = 0; p <= 31; p++) {
                DUE.is("18 bit " + p + " of " + n, x.least(1 << p, 0), p < n ? p : OUTSIDE);
                DUE.is("18 bit " + p + " of " + n + " in a ring", x.least(1 << p, 1), p < n ? 2 * p : OUTSIDE);
                DUE.is("19 bit " + p + " of " + n, x.order(1 << p, 1, 0), p < n ? p : OUTSIDE);
            }
        }
    }

    /** "of several orders the first as a row"; "UNKNOWN: k is not 0 .. 7". */
    private static void ordersAlike() {
        for (int kind = 0; kind <= 1; kind++) {
            LampWays one = Lamps.lit("h2;b0;011", all(8, 1));
            DUE.is("18 eight at one place", one.least(255, kind), kind + 1);
            order("eight at one place", one, 255, kind, 0, 1, 2, 3, 4, 5, 6, 7);
            order("some at one place", one, 0b10100110, kind, 1, 2, 5, 7);
            order("the last at one place", one, 128, kind, 7);
            LampWays box = Lamps.lit("h2;b0;011", all(8, 0));
            DUE.is("18 eight at the box", box.least(255, kind), 0);
            order("eight at the box", box, 255, kind, 0, 1, 2, 3, 4, 5, 6, 7);
        }
        LampWays round = Lamps.lit("h4;b0;012;122;232;302", 3, 2, 1);
        order("a ring either way round", round, 7, 1, 0, 1, 2);
        order("a chain either way round", round, 7, 0, 0, 1, 2);
        order("two beside the box", round, 5, 0, 0, 2);
        LampWays turned = Lamps.lit("h4;b0;012;122;233;302", 2, 1, 3);
        DUE.is("18 a yard more on one side", turned.least(7, 0), 7);
        order("a yard more on one side", turned, 7, 0, 1, 0, 2);
        DUE.is("18 a ring of all", turned.least(7, 1), 9);
        order("a ring of all", turned, 7, 1, 1, 0, 2);
        LampWays far = Lamps.lit(LONGEST, 7, 0, 7, 0, 7, 0, 7, 0);
        DUE.is("18 the longest chain", far.least(255, 0), 63);
        order("the longest chain", far, 255, 0, 1, 3, 5, 7, 0, 2, 4, 6);
        DUE.is("18 the longest ring", far.least(255, 1), 126);
        order("the longest ring", far, 255, 1, 0, 2, 4, 6, 1, 3, 5, 7);
    }

    /** "(.. NONE, if a RUN is not there.)": of a point that is cut off alone, with others, not in the set. */
    private static void cutOff() {
        LampWays x = Lamps.lit("h4;b0;011;231", 0, 1, 2, 3);
        for (int set = 1; set < 16; set++) {
            for (int kind = 0; kind <= 1; kind++) {
                int due = set >= 4 ? NONE : set == 1 ? 0 : kind + 1;
                DUE.is("18 set " + set + ", kind " + kind, x.least(set, kind), due);
                int first = due == NONE ? NONE : set == 2 ? 1 : 0;
                DUE.is("19 set " + set + ", kind " + kind, x.order(set, kind, 0), first);
            }
        }
        x.shut(0, true);
        DUE.is("18 at the box all the same", x.least(1, 1), 0);
        DUE.is("18 shut", x.least(2, 0), NONE);
        x.box(3);
        DUE.is("18 from another box", x.least(12, 0), 1);
        DUE.is("18 from another box", x.least(1, 0), NONE);
    }

    /** "by w CHAINS at most (1 .. 3), each with LOADS of f together at most (its FUSE)", "f (1 .. 99)". */
    private static void loadsOfPlans() {
        for (int f = -1; f <= 101; f++) {
            for (int v = 1; v <= 20; v++) {
                LampWays x = loads("h2;b0;013", all(1, 1), v);
                int due = f < 1 || f > 99 ? OUTSIDE : v <= f ? 3 : NONE;
                DUE.is("20 a load of " + v + ", f " + f, x.plan(1, f, true), due);
                DUE.is("21 a load of " + v + ", f " + f, x.on(1, f, true, 0), due == 3 ? 0 : due);
                DUE.is("22 a load of " + v + ", f " + f, x.best(1, f, true), due == 3 ? 1 : due);
                DUE.is("23 a load of " + v + ", f " + f, x.costs(0, 1, f, true), due == 3 ? NONE : due);
            }
        }
        LampWays five = loads("h2;b0;013", all(5, 1), 20, 20, 20, 20, 20);
        DUE.is("20 a hundred by one", five.plan(1, 99, false), NONE);
        DUE.is("20 a hundred by two", five.plan(2, 60, false), 6);
        DUE.is("20 a hundred by two, one less", five.plan(2, 59, false), NONE);
        rowOfPlan("a hundred by two", five, 2, 60, false, 0, 0, 0, 1, 1);
        DUE.is("20 a hundred by three", five.plan(3, 40, false), 9);
        DUE.is("20 a hundred by three, one less", five.plan(3, 39, false), NONE);
        rowOfPlan("a hundred by three", five, 3, 40, false, 0, 0, 1, 1, 2);
        five.load(4, 19);
        DUE.is("20 ninety-nine by one", five.plan(1, 99, false), 3);
        DUE.is("20 ninety-nine by one, one less", five.plan(1, 98, false), NONE);
        LampWays eight = loads("h2;b0;013", all(8, 1), 20, 20, 20, 20, 20, 20, 20, 20);
        DUE.is("20 all the load by one", eight.plan(1, 99, false), NONE);
        DUE.is("20 all the load by two", eight.plan(2, 80, false), 6);
        DUE.is("20 all the load by two, one less", eight.plan(2, 79, false), NONE);
        DUE.is("20 all the load by three", eight.plan(3, 60, false), 9);
        DUE.is("20 all the load by three, one less", eight.plan(3, 59, false), NONE);
        rowOfPlan("all the load by three", eight, 3, 60, false, 0, 0, 0, 1, 1, 1, 2, 2);
        rowOfPlan("all the load by three, one less", eight, 3, 59, true, all(8, NONE));
    }

    /** "w (1 .. 3)": so many at most, fewer where that needs less. */
    private static void howManyWays() {
        LampWays x = loads("h4;b0;011;021;031", new int[] {1, 2, 3}, 1, 1, 1);
        int[] due = {OUTSIDE, OUTSIDE, 5, 4, 3, OUTSIDE, OUTSIDE};
        int[][] rows = {{}, {}, {0, 0, 0}, {0, 0, 1}, {0, 1, 2}, {}, {}};
        for (int w = -1; w <= 5; w++) {
            DUE.is("20 by " + w, x.plan(w, 99, false), due[w + 1]);
            DUE.is("22 by " + w, x.best(w, 99, false), w < 1 || w > 3 ? OUTSIDE : w == 3 ? 0 : w == 2 ? 0 : 1);
            DUE.is("23 by " + w, x.costs(0, w, 99, false), w < 1 || w > 3 ? OUTSIDE : NONE);
            DUE.is("21 by " + w, x.on(w, 99, false, 0), w < 1 || w > 3 ? OUTSIDE : 0);
            rowOfPlan("by " + w, x, w, 99, false, rows[w + 1]);
        }
        LampWays straight = loads(ROW, new int[] {7, 6, 5, 4}, 1, 1, 1, 1);
        for (int w = 1; w <= 3; w++) {
            DUE.is("20 one is enough of " + w, straight.plan(w, 99, false), 7);
            rowOfPlan("one is enough of " + w, straight, w, 99, false, 0, 0, 0, 0);
        }
    }

    /** "PLAN of all POINTS": one, and as many as there may be; a chain of it may have all eight. */
    private static void howManyPoints() {
        for (int n = 0; n <= 8; n++) {
            LampWays x = Lamps.told("h2;b0;012");
            for (int p = 0; p < n; p++) {
                x.point(1, 1, 0);
            }
            DUE.is("20 of " + n, x.plan(1, 8, false), n == 0 ? STATE : 2);
            DUE.is("20 of " + n + ", f so many", x.plan(1, Math.max(1, n), false), n == 0 ? STATE : 2);
            int oneLess = n == 0 ? STATE : n == 1 ? 2 : NONE;
            DUE.is("20 of " + n + ", f one less", x.plan(1, Math.max(1, n - 1), false), oneLess);
            DUE.is("21 of the last of " + n, x.on(1, 8, false, n - 1), n == 0 ? UNKNOWN : 0);
            DUE.is("21 of one more than " + n, x.on(1, 8, false, n), UNKNOWN);
            DUE.is("22 of " + n, x.best(1, 8, false), n == 0 ? STATE : 1);
            DUE.is("23 of " + n, x.costs(0, 1, 8, false), n == 0 ? STATE : NONE);
            DUE.is("20 dark, of " + n, x.plan(1, 8, true), n == 0 ? STATE : n == 1 ? 2 : NONE);
            DUE.is("20 dark by two, of " + n, x.plan(2, 8, true), n == 0 ? STATE : n == 1 ? 2 : 4);
        }
    }

    /** "with DARK: of a ROOM with two POINTS or more not all are on one WAY": of each room, of one, two, all. */
    private static void dark() {
        for (int room = 0; room <= 5; room++) {
            LampWays x = Lamps.told("h2;b0;015");
            x.point(1, 1, room);
            DUE.is("20 one point of room " + room, x.plan(1, 9, true), 5);
            x.point(1, 1, (room + 1) % 6);
            DUE.is("20 one point of each of two rooms", x.plan(1, 9, true), 5);
            x.point(1, 1, room);
            DUE.is("20 two points of room " + room, x.plan(1, 9, true), NONE);
            DUE.is("20 not looked at", x.plan(1, 9, false), 5);
            rowOfPlan("two points of room " + room, x, 2, 9, true, 0, 0, 1);
            rowOfPlan("two points of room " + room + " by three", x, 3, 9, true, 0, 0, 1);
            DUE.is("22 two points of room " + room, x.best(1, 9, true), NONE);
            DUE.is("22 by two", x.best(2, 9, true), 1);
        }
        LampWays six = Lamps.told("h2;b0;015");
        for (int room = 0; room <= 5; room++) {
            six.point(1, 1, room);
        }
        DUE.is("20 a point of each room", six.plan(1, 9, true), 5);
        six.point(1, 1, 5);
        six.point(1, 1, 0);
        DUE.is("20 two rooms of two", six.plan(1, 9, true), NONE);
        DUE.is("20 two rooms of two by two", six.plan(2, 9, true), 10);
        rowOfPlan("two rooms of two", six, 2, 9, true, 0, 0, 0, 0, 0, 0, 1, 1);
        LampWays fused = loads("h2;b0;015", all(3, 1), 5, 5, 1);
        DUE.is("20 dark and a fuse", fused.plan(2, 6, true), 10);
        rowOfPlan("dark and a fuse", fused, 2, 6, true, 0, 1, 0);
        rowOfPlan("dark and a lesser fuse", fused, 2, 5, true, NONE, NONE, NONE);
        rowOfPlan("dark and a lesser fuse by three", fused, 3, 5, true, 0, 1, 2);
        LampWays star = Lamps.told("h4;b0;011;021;031");
        for (int p = 0; p < 4; p++) {
            star.point(Math.min(p + 1, 3), 1, Math.min(p, 2));
        }
        DUE.is("20 a room on the third way, not looked at", star.plan(3, 9, false), 3);
        rowOfPlan("a room on the third way, not looked at", star, 3, 9, false, 0, 1, 2, 2);
        DUE.is("20 a room on the third way", star.plan(3, 9, true), 5);
        rowOfPlan("a room on the third way", star, 3, 9, true, 0, 0, 1, 2);
    }

    /** Promise 22: "of several the least PLACE"; "NONE: there is no PLAN anywhere". */
    private static void best() {
        for (int n = 2; n <= 8; n++) {
            LampWays x = Lamps.told("h" + n + ";b1;011");
            x.point(n - 1, 1, 0);
            DUE.is("22 at the last of " + n, x.best(1, 1, false), n - 1);
            x.box(n - 1);
            DUE.is("22 wherever it is", x.best(1, 1, false), n - 1);
            DUE.is("22 the box stays", x.box(0), n - 1);
        }
        LampWays alike = Lamps.lit("h4;b3;011;121;231;301", 0, 1, 2, 3);
        DUE.is("22 of four alike the least", alike.best(1, 99, false), 0);
        LampWays two = Lamps.lit("h4;b0;011;121;231", 3, 1);
        DUE.is("22 of three alike the least", two.best(1, 99, false), 1);
        LampWays parted = Lamps.lit("h6;b0;011;231;451", 2, 4);
        DUE.is("22 no plan anywhere", parted.best(3, 99, false), NONE);
        LampWays behind = Lamps.lit("h6;b0;011;231;451", 4);
        DUE.is("22 not where the box is", behind.plan(1, 99, false), NONE);
        DUE.is("22 where there is one", behind.best(1, 99, false), 4);
    }

    /** Promise 23: "NONE: there is none, or none, if it were SHUT"; nothing, if it is not needed. */
    private static void costs() {
        LampWays x = Lamps.lit("h3;b0;011;121;209;012", 1);
        int[] due = {1, 0, 0, 0};
        for (int k = 0; k < 4; k++) {
            DUE.is("23 run " + k, x.costs(k, 1, 9, false), due[k]);
        }
        DUE.is("23 one run more", x.costs(4, 1, 9, false), UNKNOWN);
        x.shut(3, true);
        DUE.is("23 the long way round", x.costs(0, 1, 9, false), 9);
        DUE.is("23 of a shut one", x.costs(3, 1, 9, false), 0);
        x.shut(1, true);
        DUE.is("23 none, if it were shut", x.costs(0, 1, 9, false), NONE);
        x.shut(0, true);
        DUE.is("23 none as it is", x.costs(2, 1, 9, false), NONE);
        DUE.is("23 none as it is, of a shut one", x.costs(0, 1, 9, false), NONE);
        DUE.is("23 three stay shut", x.many(2), 3);
        LampWays most = Lamps.told("h2;b0;011;011;011;011;011;011;011;011;011;011;011;011;011;019");
        most.point(1, 1, 0);
        for (int k = 0; k < 13; k++) {
            DUE.is("23 one of many alike", most.costs(k, 1, 1, true), k < 12 ? 0 : 8);
            most.shut(k, true);
        }
        DUE.is("23 the last of fourteen", most.costs(13, 1, 1, true), NONE);
        DUE.is("23 a fifteenth", most.costs(14, 1, 1, true), UNKNOWN);
    }

    private static void doors(String what, LampWays x, int c, int set, int cores, int... want) {
        DUE.is("24 " + what, x.cores(c, set), cores);
        for (int k = -1; k <= 4; k++) {
            int due = k < 0 || k > 3 ? UNKNOWN : k < want.length ? want[k] : NONE;
            DUE.is("25 " + what + ", k " + k, x.door(c, set, k), due);
        }
    }

    /** "switched from 1 to 4 PLACES (unlike ones)"; "OUTSIDE: set (1 to 4 of those there are)": each set. */
    private static void setsOfDoors() {
        for (int n = 2; n <= 8; n++) {
            LampWays x = Lamps.told("h" + n + ";b0;011");
            for (int set = 0; set < 512; set++) {
                if (set % 200 == 0) {
                    x = Lamps.told("h" + n + ";b0;011");
                }
                int many = Integer.bitCount(set);
                boolean taken = many >= 1 && many <= 4 && set < 1 << n;
                int due = !taken ? OUTSIDE : set == 1 ? 0 : set <= 3 ? 2 + (set == 3 ? 1 : 0) : NONE;
                DUE.is("24 set " + set + " of " + n, x.cores(0, set), due);
                DUE.is("25 set " + set + " of " + n, x.door(0, set, 0), !taken ? OUTSIDE : due == NONE ? NONE
                        : set == 2 ? 1 : 0);
            }
        }
    }

    /** "FEWEST of a set: by all rows; of several the first as a row": of one, two, three, four; the greatest. */
    private static void rowsOfDoors() {
        LampWays x = Lamps.told(LONGEST);
        doors("one, the farthest", x, 0, 128, 126, 7);
        doors("one, lamp and door far", x, 7, 128, 126, 7);
        doors("one at the box", x, 7, 1, 126, 0);
        doors("two alike either way", x, 0, 192, 135, 6, 7);
        doors("both ends", x, 0, 129, 189, 0, 7);
        doors("both ends, lamp far", x, 7, 129, 189, 0, 7);
        doors("four, the lamp behind", x, 7, 15, 153, 0, 1, 2, 3);
        doors("four, apart", x, 7, 0b10100101, 189, 0, 2, 5, 7);
        x.box(7);
        doors("four, from the other end", x, 0, 0b10100101, 189, 7, 5, 2, 0);
        LampWays alike = Lamps.told("h5;b0;011;021;031;041");
        doors("four alike", alike, 0, 30, 14, 1, 2, 3, 4);
        doors("three alike", alike, 0, 28, 10, 2, 3, 4);
        doors("two alike", alike, 0, 24, 6, 3, 4);
    }

    /** "NONE: a RUN is not there for any row": to a door, to the lamp, from the box. */
    private static void doorsNotThere() {
        LampWays x = Lamps.told("h5;b0;011;231");
        doors("all there", x, 1, 3, 3, 0, 1);
        doors("a door is cut off", x, 1, 7, NONE);
        doors("the only door is cut off", x, 1, 4, NONE);
        doors("the lamp is cut off", x, 4, 3, NONE);
        doors("lamp and door are cut off together", x, 2, 8, NONE);
        x.box(3);
        doors("the box is cut off with them", x, 2, 8, 2, 3);
        doors("the lamp is cut off", x, 1, 8, NONE);
        x.shut(1, true);
        doors("all at the box", x, 3, 8, 0, 3);
        doors("shut", x, 3, 4, NONE);
    }

    public static void main(String[] args) {
        setsOfPoints();
        ordersAlike();
        cutOff();
        loadsOfPlans();
        howManyWays();
        howManyPoints();
        dark();
        best();
        costs();
        setsOfDoors();
        rowsOfDoors();
        doorsNotThere();
        DUE.end();
    }
}
