/** What most tests begin with: a house from a text, ways from rows of points. */
final class Lamps {
    /** Places 0 .. 4, the box at 0; from 0 to 3 it is 6 yards by the runs 0 and 5. */
    static final String FIVE = "h5;b0;013d2;122;235;344;405d9;133";
    static final String SQUARE = "h4;b0;011;121;231;301";
    static final long LOST = LampWays.LOST;

    private Lamps() {
    }

    static LampWays told(String text) {
        LampWays x = new LampWays();
        tell(x, text);
        return x;
    }

    /** What the house call answers for a text, put on sheet 3 as bytes. */
    static int tell(LampWays x, String text) {
        write(x, 3, 0, text);
        return x.house(3, 0, 0, text.length());
    }

    static void write(LampWays x, int sheet, int lane, String text) {
        x.sheet(sheet, lane, text.length());
        for (int i = 0; i < text.length(); i++) {
            x.put(sheet, i, text.charAt(i));
        }
    }

    /** What the way call answers for a row of points, put on sheet 2 as ints. */
    static int lay(LampWays x, int kind, int fuse, int... stops) {
        x.sheet(2, 2, stops.length);
        for (int i = 0; i < stops.length; i++) {
            x.put(2, i, stops[i]);
        }
        return x.way(kind, fuse, 2, 2, 0, stops.length);
    }

    /** Points of load 1 .. , all in room 0, at the places told. */
    static LampWays lit(String text, int... places) {
        LampWays x = told(text);
        for (int p = 0; p < places.length; p++) {
            x.point(places[p], p + 1, 0);
        }
        return x;
    }
}
