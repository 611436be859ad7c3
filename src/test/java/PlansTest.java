/** Promises 18 to 23: the least cable, plans, the box's best place, what a shut run costs. */
public final class PlansTest {
    private static final Due DUE = new Due("PlansTest");
    private static final int NONE = LampWays.NONE, UNKNOWN = LampWays.UNKNOWN, OUTSIDE = LampWays.OUTSIDE,
            STATE = LampWays.STATE;

    private static LampWays five() {
        LampWays x = Lamps.told(Lamps.FIVE);
        int[][] points = {{1, 5, 0}, {3, 7, 0}, {4, 20, 1}, {2, 1, 1}, {1, 9, 2}};
        for (int[] p : points) {
            x.point(p[0], p[1], p[2]);
        }
        return x;
    }

    private static void row(String what, LampWays x, int set, int kind, int... want) {
        for (int k = 0; k < 8; k++) {
            DUE.is("19 " + what + ", the " + k + "-th", x.order(set, kind, k), k < want.length ? want[k] : NONE);
        }
    }

    private static void least() {
        LampWays x = five();
        int[] sets = {1, 3, 7, 31, 21};
        int[] chains = {3, 6, 10, 14, 10};
        int[] rings = {6, 12, 15, 19, 15};
        for (int t = 0; t < sets.length; t++) {
            DUE.is("18 chain of " + sets[t], x.least(sets[t], 0), chains[t]);
            DUE.is("18 ring of " + sets[t], x.least(sets[t], 1), rings[t]);
        }
        DUE.is("18 empty", x.least(0, 0), OUTSIDE);
        DUE.is("18 a bit of none", x.least(32, 0), OUTSIDE);
        DUE.is("18 a bit of none", x.least(33, 1), OUTSIDE);
        DUE.is("18 a bit of none", x.least(-1, 0), OUTSIDE);
        DUE.is("18 a bit of none", x.least(Integer.MIN_VALUE, 0), OUTSIDE);
        DUE.is("18 no such kind", x.least(1, 2), OUTSIDE);
        DUE.is("18 no such kind", x.least(1, -1), OUTSIDE);
        Lamps.lay(x, 0, 9, 0, 1);
        DUE.is("18 also of points on ways", x.least(3, 0), 6);
        x.box(2);
        DUE.is("18 from another box", x.least(1, 0), 2);
    }

    private static void leastOfEight() {
        LampWays x = Lamps.lit("h8;b0;011;121;231;341;451;561;671", 7, 6, 5, 4, 3, 2, 1, 0);
        DUE.is("18 eight in a chain", x.least(255, 0), 7);
        row("eight in a chain", x, 255, 0, 7, 6, 5, 4, 3, 2, 1, 0);
        DUE.is("18 eight in a ring", x.least(255, 1), 14);
        row("eight in a ring", x, 255, 1, 0, 1, 2, 3, 4, 5, 6, 7);
        x.shut(6, true);
        DUE.is("18 one of them is cut off", x.least(255, 0), NONE);
        DUE.is("18 one of them is cut off", x.least(255, 1), NONE);
        row("one of them is cut off", x, 255, 0);
        DUE.is("18 without it", x.least(254, 0), 6);
        DUE.is("18 it alone", x.least(1, 0), NONE);
        row("it alone", x, 1, 0);
        x.box(7);
        DUE.is("18 at the box", x.least(1, 1), 0);
        DUE.is("18 the others are cut off", x.least(2, 0), NONE);
    }

    private static void order() {
        LampWays x = five();
        row("one", x, 1, 0, 0);
        row("two", x, 3, 0, 0, 1);
        row("three", x, 21, 0, 0, 4, 2);
        row("five in a chain", x, 31, 0, 0, 3, 4, 1, 2);
        row("five in a ring", x, 31, 1, 0, 3, 4, 1, 2);
        DUE.is("19 empty", x.order(0, 0, 0), OUTSIDE);
        DUE.is("19 a bit of none", x.order(32, 0, 8), OUTSIDE);
        DUE.is("19 no such kind", x.order(1, 2, -1), OUTSIDE);
        DUE.is("19 no such kind", x.order(1, -1, 0), OUTSIDE);
        DUE.is("19 not 0 .. 7", x.order(1, 0, 8), UNKNOWN);
        DUE.is("19 not 0 .. 7", x.order(1, 0, -1), UNKNOWN);
        DUE.is("19 not 0 .. 7", x.order(1, 0, Integer.MAX_VALUE), UNKNOWN);
        LampWays same = Lamps.lit(Lamps.SQUARE, 2, 1, 3, 2);
        row("of several the first", same, 9, 0, 0, 3);
        row("of several rings the first", same, 6, 1, 1, 2);
        row("around the square", same, 7, 1, 1, 0, 2);
        row("around the square, with two at a corner", same, 15, 1, 1, 0, 3, 2);
    }

    private static void rowOfPlan(String what, LampWays x, int w, int f, boolean dark, int... want) {
        for (int p = 0; p < want.length; p++) {
            DUE.is("21 " + what + ", point " + p, x.on(w, f, dark, p), want[p]);
        }
    }

    private static void plan() {
        LampWays x = five();
        DUE.is("20 one, dark", x.plan(1, 42, true), NONE);
        rowOfPlan("one, dark", x, 1, 42, true, NONE, NONE, NONE, NONE, NONE);
        DUE.is("20 one", x.plan(1, 42, false), 14);
        rowOfPlan("one", x, 1, 42, false, 0, 0, 0, 0, 0);
        DUE.is("20 one, too much by one", x.plan(1, 41, false), NONE);
        rowOfPlan("one, too much by one", x, 1, 41, false, NONE, NONE, NONE, NONE, NONE);
        DUE.is("20 two", x.plan(2, 30, true), 14);
        rowOfPlan("two", x, 2, 30, true, 0, 1, 1, 0, 0);
        DUE.is("20 two, not dark", x.plan(2, 30, false), 14);
        DUE.is("20 three at most", x.plan(3, 99, false), 14);
        rowOfPlan("three at most", x, 3, 99, false, 0, 0, 0, 0, 0);
        DUE.is("20 no number of ways", x.plan(0, 9, false), OUTSIDE);
        DUE.is("20 too many ways", x.plan(4, 9, false), OUTSIDE);
        DUE.is("20 no fuse", x.plan(1, 0, false), OUTSIDE);
        DUE.is("20 too great a fuse", x.plan(1, 100, false), OUTSIDE);
        DUE.is("21 no such point", x.on(0, 0, false, 5), UNKNOWN);
        DUE.is("21 no such point", x.on(1, 9, false, -1), UNKNOWN);
        DUE.is("21 no number of ways", x.on(0, 9, false, 0), OUTSIDE);
        DUE.is("21 too many ways", x.on(4, 9, false, 0), OUTSIDE);
        DUE.is("21 no fuse", x.on(1, 0, false, 0), OUTSIDE);
        DUE.is("21 too great a fuse", x.on(1, 100, false, 0), OUTSIDE);
        LampWays none = Lamps.told(Lamps.FIVE);
        DUE.is("20 no points", none.plan(1, 9, true), STATE);
        DUE.is("20 outside comes first", none.plan(4, 9, true), OUTSIDE);
        DUE.is("21 no points", none.on(1, 9, true, 0), UNKNOWN);
    }

    private static void planOfManyRows() {
        LampWays x = Lamps.told("h3;b0;011;021");
        for (int p = 0; p < 8; p++) {
            x.point(p % 2 + 1, 5, p / 4);
        }
        DUE.is("20 all on one", x.plan(1, 40, false), 3);
        DUE.is("20 each side on its own", x.plan(2, 39, false), 2);
        rowOfPlan("each side on its own", x, 2, 39, false, 0, 1, 0, 1, 0, 1, 0, 1);
        DUE.is("20 three, dark", x.plan(3, 20, true), 2);
        rowOfPlan("three, dark", x, 3, 20, true, 0, 1, 0, 1, 0, 1, 0, 1);
        DUE.is("20 three needed", x.plan(3, 15, false), 5);
        rowOfPlan("three needed", x, 3, 15, false, 0, 0, 0, 1, 2, 1, 2, 1);
        DUE.is("20 not even three", x.plan(3, 10, false), NONE);
        DUE.is("20 two are too few", x.plan(2, 19, false), NONE);
        DUE.is("20 two at their most", x.plan(2, 20, false), 2);
        x.shut(1, true);
        DUE.is("20 cut off", x.plan(3, 99, false), NONE);
        rowOfPlan("cut off", x, 3, 99, false, NONE, NONE);
    }

    private static void dark() {
        LampWays x = Lamps.told("h2;b0;014");
        x.point(1, 1, 5);
        DUE.is("20 one point alone is not dark", x.plan(1, 9, true), 4);
        x.point(1, 1, 4);
        DUE.is("20 two rooms are not dark", x.plan(1, 9, true), 4);
        x.point(1, 1, 5);
        DUE.is("20 a room would be dark", x.plan(1, 9, true), NONE);
        DUE.is("20 looked at", x.plan(2, 9, true), 8);
        rowOfPlan("looked at", x, 2, 9, true, 0, 0, 1);
        DUE.is("20 not looked at", x.plan(2, 9, false), 4);
        rowOfPlan("not looked at", x, 2, 9, false, 0, 0, 0);
        x.point(1, 1, 5);
        rowOfPlan("not all of three", x, 3, 9, true, 0, 0, 0, 1);
        Lamps.lay(x, 0, 9, 0, 2);
        rowOfPlan("ways that are there do not matter", x, 3, 9, true, 0, 0, 0, 1);
        Lamps.lay(x, 0, 9, 1);
        rowOfPlan("nor do their numbers", x, 3, 9, true, 0, 0, 0, 1);
        DUE.is("20 nor do their fuses", x.plan(3, 1, true), NONE);
        LampWays anew = Lamps.lit("h2;b0;014", 1, 1);
        DUE.is("20 a room would be dark", anew.plan(1, 9, true), NONE);
        Lamps.tell(anew, "h2;b0;015");
        anew.point(1, 1, 0);
        anew.point(1, 1, 1);
        DUE.is("20 rooms of another house", anew.plan(1, 9, true), 5);
    }

    private static void best() {
        LampWays x = Lamps.told("h5;b0;013;124;232;341");
        x.point(1, 5, 0);
        x.point(4, 5, 0);
        DUE.is("22 at an end", x.best(1, 10, false), 1);
        DUE.is("22 the first place", Lamps.lit("h3;b2;011;121", 0).best(1, 9, false), 0);
        DUE.is("22 the last place", Lamps.lit("h3;b0;011;121", 2).best(1, 9, false), 2);
        DUE.is("22 the last of eight", Lamps.lit("h8;b0;671;011", 7, 7).best(1, 9, false), 7);
        DUE.is("22 each on its own", x.best(2, 5, false), 1);
        x.point(4, 5, 1);
        DUE.is("22 two there", x.best(1, 99, false), 1);
        DUE.is("22 each on its own", x.best(3, 5, false), 4);
        DUE.is("22 the box stays", x.box(0), 0);
        DUE.is("22 none", x.best(2, 5, false), NONE);
        DUE.is("22 dark", x.best(1, 99, true), NONE);
        DUE.is("22 no number of ways", x.best(0, 9, false), OUTSIDE);
        DUE.is("22 too many ways", x.best(4, 9, false), OUTSIDE);
        DUE.is("22 no fuse", x.best(1, 0, false), OUTSIDE);
        DUE.is("22 too great a fuse", x.best(1, 100, false), OUTSIDE);
        x.shut(3, true);
        DUE.is("22 parted", x.best(3, 99, false), NONE);
        LampWays none = Lamps.told(Lamps.FIVE);
        DUE.is("22 no points", none.best(1, 9, true), STATE);
        DUE.is("22 outside comes first", none.best(1, 100, true), OUTSIDE);
        LampWays far = Lamps.lit("h4;b0;011;231", 3, 2);
        DUE.is("22 where the box is there is none", far.plan(1, 9, false), NONE);
        DUE.is("22 elsewhere there is", far.best(1, 9, false), 2);
    }

    private static void costs() {
        LampWays x = Lamps.told("h4;b0;011;121;233;302");
        x.point(2, 5, 0);
        x.point(3, 5, 0);
        DUE.is("23 now", x.plan(2, 9, false), 4);
        DUE.is("23 the first", x.costs(0, 2, 9, false), 3);
        DUE.is("23 the second", x.costs(1, 2, 9, false), 3);
        DUE.is("23 not needed", x.costs(2, 2, 9, false), 0);
        DUE.is("23 the last", x.costs(3, 2, 9, false), 3);
        DUE.is("23 none is shut", x.many(2), 0);
        DUE.is("23 as it was", x.plan(2, 9, false), 4);
        DUE.is("23 none now", x.costs(0, 1, 9, false), NONE);
        DUE.is("23 dark", x.costs(0, 1, 10, true), NONE);
        DUE.is("23 not dark", x.costs(3, 1, 10, false), 0);
        x.shut(2, true);
        DUE.is("23 none, if it were shut", x.costs(0, 2, 9, false), NONE);
        DUE.is("23 it is shut", x.costs(2, 2, 9, false), 0);
        DUE.is("23 it stays shut", x.ofRun(2, 4), 1);
        DUE.is("23 others stay open", x.ofRun(0, 4), 0);
        DUE.is("23 no such run", x.costs(4, 9, 9, false), UNKNOWN);
        DUE.is("23 no such run", x.costs(-1, 1, 9, false), UNKNOWN);
        DUE.is("23 no number of ways", x.costs(0, 0, 9, false), OUTSIDE);
        DUE.is("23 too many ways", x.costs(0, 4, 9, false), OUTSIDE);
        DUE.is("23 no fuse", x.costs(0, 1, 0, false), OUTSIDE);
        DUE.is("23 too great a fuse", x.costs(0, 1, 100, false), OUTSIDE);
        LampWays none = Lamps.told(Lamps.FIVE);
        DUE.is("23 no points", none.costs(0, 1, 9, true), STATE);
        DUE.is("23 outside comes first", none.costs(0, 4, 9, true), OUTSIDE);
        DUE.is("23 unknown comes first", none.costs(6, 4, 9, true), UNKNOWN);
    }

    /** "if it were SHUT, less that now": of a run that is shut now both are the same, though open it would save. */
    private static void costsOfShutOnes() {
        LampWays x = Lamps.lit("h3;b0;011;019;121;021", 1, 2);
        x.shut(0, true);
        x.shut(3, true);
        DUE.is("23 now the long one is needed", x.plan(1, 9, false), 10);
        DUE.is("23 a shut one that would save", x.costs(0, 1, 9, false), 0);
        DUE.is("23 another one that would save", x.costs(3, 1, 9, false), 0);
        DUE.is("23 the long one", x.costs(1, 1, 9, false), NONE);
        x.shut(3, false);
        DUE.is("23 a shut one that would not save", x.costs(0, 1, 9, false), 0);
        DUE.is("23 the short one", x.costs(3, 1, 9, false), 8);
        x.shut(1, true);
        x.shut(3, true);
        DUE.is("23 no plan now, though open there would be one", x.costs(3, 1, 9, false), NONE);
        DUE.is("23 three are shut", x.many(2), 3);
    }

    public static void main(String[] args) {
        least();
        leastOfEight();
        order();
        plan();
        planOfManyRows();
        dark();
        best();
        costs();
        costsOfShutOnes();
        DUE.end();
    }
}
