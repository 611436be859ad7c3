/** Promises 24 and 25: lamps switched from several doors. */
public final class DoorsTest {
    private static final Due DUE = new Due("DoorsTest");
    private static final int NONE = LampWays.NONE, UNKNOWN = LampWays.UNKNOWN, OUTSIDE = LampWays.OUTSIDE;
    private static final String SIX = "h6;b0;012;123;234;345;456;501;144";

    private static void row(LampWays x, int c, int set, int cores, int... want) {
        DUE.is("24 lamp at " + c + ", doors " + set, x.cores(c, set), cores);
        for (int k = 0; k < 4; k++) {
            DUE.is("25 lamp at " + c + ", doors " + set + ", the " + k + "-th", x.door(c, set, k),
                    k < want.length ? want[k] : NONE);
        }
    }

    private static void rows() {
        LampWays x = Lamps.told(SIX);
        row(x, 3, 2, 18, 1);
        row(x, 3, 6, 21, 1, 2);
        row(x, 3, 22, 33, 2, 1, 4);
        row(x, 5, 30, 33, 1, 2, 3, 4);
        row(x, 0, 1, 0, 0);
        row(x, 1, 1, 4, 0);
        row(x, 1, 3, 6, 0, 1);
        x.box(3);
        row(x, 3, 8, 0, 3);
        row(x, 0, 8, 18, 3);
        x.box(0);
        x.shut(1, true);
        row(x, 3, 2, 22, 1);
    }

    private static void ofSeveralTheFirst() {
        LampWays x = Lamps.told(Lamps.SQUARE);
        row(x, 2, 10, 8, 1, 3);
        row(x, 0, 10, 6, 1, 3);
        row(x, 2, 5, 6, 0, 2);
    }

    private static void notThere() {
        LampWays x = Lamps.told("h6;b0;011;121;341;451");
        row(x, 3, 2, NONE);
        row(x, 1, 8, NONE);
        row(x, 1, 10, NONE);
        row(x, 3, 24, NONE);
        row(x, 1, 4, 4, 2);
        x.box(5);
        row(x, 3, 16, 4, 4);
        x.shut(3, true);
        row(x, 3, 16, NONE);
    }

    private static void refused() {
        LampWays x = Lamps.told(SIX);
        int[] sets = {0, 31, 63, 64, 65, -1, 1 << 31, 128, 256};
        for (int set : sets) {
            DUE.is("24 set " + set, x.cores(4, set), OUTSIDE);
            DUE.is("25 set " + set, x.door(4, set, 9), OUTSIDE);
            DUE.is("24 no such place, set " + set, x.cores(6, set), UNKNOWN);
            DUE.is("25 no such place, set " + set, x.door(-1, set, 0), UNKNOWN);
        }
        DUE.is("24 no such place", x.cores(-1, 1), UNKNOWN);
        DUE.is("25 no such place", x.door(6, 1, 0), UNKNOWN);
        DUE.is("25 not 0 .. 3", x.door(0, 1, 4), UNKNOWN);
        DUE.is("25 not 0 .. 3", x.door(0, 1, -1), UNKNOWN);
        LampWays eight = Lamps.told("h8;b0;011;121;231;341;451;561;671");
        DUE.is("24 the last place", eight.cores(7, 128), 14);
        DUE.is("24 the last four", eight.cores(7, 240), 17);
        DUE.is("24 a ninth", eight.cores(7, 256), OUTSIDE);
        DUE.is("24 five", eight.cores(7, 248), OUTSIDE);
        LampWays apart = Lamps.told("h3;b0;011");
        DUE.is("25 unknown comes before none", apart.door(2, 1, 4), UNKNOWN);
    }

    public static void main(String[] args) {
        rows();
        ofSeveralTheFirst();
        notThere();
        refused();
        DUE.end();
    }
}
