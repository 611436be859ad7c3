/** Promises 26 to 29: readings, what fits them, what to turn on next. */
public final class MetersTest {
    private static final Due DUE = new Due("MetersTest");
    private static final int NONE = LampWays.NONE, OUTSIDE = LampWays.OUTSIDE, FULL = LampWays.FULL;

    private static LampWays loads(int... loads) {
        LampWays x = Lamps.told("h2;b0;011");
        for (int v : loads) {
            x.point(0, v, 0);
        }
        return x;
    }

    private static void fit(LampWays x, int many, int sure, int never, int next) {
        DUE.is("28 how many", x.fits(0), many);
        DUE.is("28 sure", x.fits(1), sure);
        DUE.is("28 never", x.fits(2), never);
        DUE.is("29 next", x.next(), next);
    }

    private static void reading() {
        LampWays x = loads(5, 3);
        DUE.is("26 a bit of none", x.reading(4, 0), OUTSIDE);
        DUE.is("26 a bit of none", x.reading(-1, 0), OUTSIDE);
        DUE.is("26 below 0", x.reading(1, -1), OUTSIDE);
        DUE.is("26 above 200", x.reading(1, 201), OUTSIDE);
        DUE.is("26 none yet", x.many(5), 0);
        DUE.is("26 of none that is on", x.reading(0, 0), 0);
        DUE.is("26 of both", x.reading(3, 200), 1);
        for (int k = 2; k < 12; k++) {
            DUE.is("26 one more", x.reading(1, 5), k);
        }
        DUE.is("26 full", x.reading(1, 5), FULL);
        DUE.is("26 outside comes first", x.reading(4, 5), OUTSIDE);
        DUE.is("26 outside comes first", x.reading(1, 201), OUTSIDE);
        DUE.is("26 twelve", x.many(5), 12);
        x.back(1);
        DUE.is("26 numbered by how many there are", x.reading(1, 5), 11);
    }

    private static void back() {
        LampWays x = loads(5, 3);
        DUE.is("27 none of none", x.back(0), 0);
        DUE.is("27 more than there are", x.back(1), OUTSIDE);
        x.reading(1, 5);
        x.reading(2, 3);
        x.reading(3, 0);
        DUE.is("27 below 0", x.back(-1), OUTSIDE);
        DUE.is("27 more than there are", x.back(4), OUTSIDE);
        DUE.is("27 far more", x.back(Integer.MAX_VALUE), OUTSIDE);
        DUE.is("27 none", x.back(0), 3);
        DUE.is("27 none fits", x.fits(0), 0);
        DUE.is("27 the last one", x.back(1), 2);
        fit(x, 1, 3, 0, NONE);
        DUE.is("27 the last one", x.back(1), 1);
        fit(x, 2, 1, 0, 1);
        DUE.is("27 all", x.back(1), 0);
        fit(x, 4, 0, 0, 0);
        DUE.is("27 how many there are", x.many(5), 0);
        x.reading(1, 0);
        x.reading(2, 0);
        DUE.is("27 two at once", x.back(2), 0);
    }

    private static void fits() {
        fit(loads(), 1, 0, 0, NONE);
        fit(loads(4), 2, 0, 0, 0);
        LampWays x = loads(5, 3, 2, 5);
        fit(x, 16, 0, 0, 0);
        x.reading(15, 8);
        fit(x, 2, 2, 4, 0);
        x.reading(8, 0);
        fit(x, 1, 3, 12, NONE);
        x.back(1);
        x.reading(8, 5);
        fit(x, 1, 10, 5, NONE);
        x.reading(3, 5);
        fit(x, 0, 0, 0, NONE);
        DUE.is("28 another number", x.fits(3), OUTSIDE);
        DUE.is("28 another number", x.fits(-1), OUTSIDE);
        LampWays none = loads();
        none.reading(0, 1);
        fit(none, 0, 0, 0, NONE);
        none.back(1);
        none.reading(0, 0);
        fit(none, 1, 0, 0, NONE);
    }

    private static void loadsAsTheyAre() {
        LampWays x = loads(5, 3);
        x.reading(3, 8);
        fit(x, 1, 3, 0, NONE);
        x.load(0, 8);
        fit(x, 1, 1, 2, NONE);
        x.point(0, 1, 0);
        fit(x, 2, 1, 2, 2);
        x.reading(4, 1);
        fit(x, 1, 5, 2, NONE);
        LampWays eight = loads(20, 20, 20, 20, 20, 20, 20, 20);
        DUE.is("28 all sets of eight", eight.fits(0), 256);
        eight.reading(255, 160);
        fit(eight, 1, 255, 0, NONE);
        eight.back(1);
        eight.reading(255, 0);
        fit(eight, 1, 0, 255, NONE);
        eight.back(1);
        eight.reading(255, 80);
        fit(eight, 70, 0, 0, 0);
    }

    private static void next() {
        LampWays x = loads(1, 2, 3, 6);
        x.reading(15, 6);
        fit(x, 2, 0, 0, 0);
        LampWays uneven = loads(4, 1, 1, 1, 1);
        uneven.reading(31, 4);
        fit(uneven, 2, 0, 0, 0);
        LampWays later = loads(3, 2, 1, 1);
        later.reading(15, 3);
        fit(later, 3, 0, 0, 0);
        LampWays known = loads(7, 2, 1);
        known.reading(1, 7);
        fit(known, 4, 1, 0, 1);
        LampWays third = loads(2, 2, 2, 4);
        third.reading(15, 4);
        fit(third, 4, 0, 0, 0);
        third.reading(1, 0);
        fit(third, 2, 0, 1, 1);
        LampWays last = loads(2, 2, 2, 6, 3, 3);
        last.reading(63, 6);
        fit(last, 3, 0, 0, 0);
        LampWays first = loads(2, 3);
        DUE.is("29 asked ahead of fits", first.next(), 0);
        first.reading(1, 2);
        DUE.is("29 asked ahead of fits", first.next(), 1);
        first.reading(2, 3);
        DUE.is("29 asked ahead of fits", first.next(), NONE);
        LampWays even = loads(9, 9, 9, 1);
        even.reading(7, 9);
        fit(even, 6, 0, 0, 3);
    }

    public static void main(String[] args) {
        reading();
        back();
        fits();
        loadsAsTheyAre();
        next();
        DUE.end();
    }
}
