/** The least and the greatest that is taken, and the first on either side that is not: readings and what fits them. */
public final class MetersEdgesTest {
    private static final Due DUE = new Due("MetersEdgesTest");
    private static final int NONE = LampWays.NONE, OUTSIDE = LampWays.OUTSIDE, FULL = LampWays.FULL;

    private static LampWays loads(int... loads) {
        LampWays x = Lamps.told("h2;b0;011");
        for (int v : loads) {
            x.point(1, v, 0);
        }
        return x;
    }

    private static void fit(String what, LampWays x, int many, int sure, int never, int next) {
        DUE.is("28 " + what + ", how many", x.fits(0), many);
        DUE.is("28 " + what + ", sure", x.fits(1), sure);
        DUE.is("28 " + what + ", never", x.fits(2), never);
        DUE.is("29 " + what, x.next(), next);
    }

    /** Promise 26: "OUTSIDE: set (a bit of none)": of none, of each number of points; the empty set is taken. */
    private static void sets() {
        for (int n = 0; n <= 8; n++) {
            LampWays x = loads(ones(n));
            DUE.is("26 the empty set of " + n, x.reading(0, 0), 0);
            DUE.is("26 all of " + n, x.reading((1 << n) - 1, n), 1);
            fit("all of " + n, x, 1, (1 << n) - 1, 0, NONE);
            for (int p = 0; p <= 31; p++) {
                boolean taken = p < n;
                DUE.is("26 bit " + p + " of " + n, x.reading(1 << p, 1), taken ? x.many(5) - 1 : OUTSIDE);
                DUE.is("26 bit " + p + " beside others of " + n, x.reading(1 << p | (1 << n) - 1, 201), OUTSIDE);
            }
            DUE.is("26 so many of " + n, x.many(5), n + 2);
            fit("each of " + n, x, 1, (1 << n) - 1, 0, NONE);
        }
    }

    private static int[] ones(int n) {
        int[] all = new int[n];
        java.util.Arrays.fill(all, 1);
        return all;
    }

    /** "what my METER shows (0 .. 200)". */
    private static void shown() {
        for (int v = -2; v <= 203; v++) {
            LampWays x = loads(20, 20, 20, 20, 20, 20, 20, 20);
            boolean taken = v >= 0 && v <= 200;
            DUE.is("26 shows " + v, x.reading(255, v), taken ? 0 : OUTSIDE);
            DUE.is("26 shows " + v + ", how many there are", x.many(5), taken ? 1 : 0);
            int[] chosen = {1, 8, 28, 56, 70, 56, 28, 8, 1, 0, 0};
            DUE.is("28 shows " + v, x.fits(0), !taken ? 256 : v % 20 != 0 ? 0 : chosen[v / 20]);
        }
    }

    /** "READINGS, 12 at most, numbered by how many there are": none, one, twelve, one more, one back, one again. */
    private static void twelve() {
        LampWays x = loads(1, 2);
        DUE.is("40 none", x.many(5), 0);
        for (int k = 0; k < 12; k++) {
            DUE.is("26 numbered", x.reading(k % 4, k % 4), k);
            DUE.is("40 so many", x.many(5), k + 1);
        }
        fit("twelve", x, 1, 3, 0, NONE);
        for (int t = 0; t < 3; t++) {
            DUE.is("26 one more", x.reading(1, 0), FULL);
        }
        fit("twelve still", x, 1, 3, 0, NONE);
        DUE.is("27 one back", x.back(1), 11);
        DUE.is("26 one again", x.reading(1, 0), 11);
        DUE.is("26 one more", x.reading(1, 1), FULL);
        fit("the twelfth counts", x, 0, 0, 0, NONE);
        DUE.is("27 all back", x.back(12), 0);
        fit("none", x, 4, 0, 0, 0);
        DUE.is("26 from 0 on", x.reading(2, 0), 0);
        fit("one", x, 2, 0, 2, 0);
    }

    /** Promise 27: "The last k READINGS (0 .. as many as there are) are taken back: how many are left". */
    private static void back() {
        for (int many = 0; many <= 12; many++) {
            for (int k = -1; k <= 13; k++) {
                LampWays x = loads(1, 2);
                for (int t = 0; t < many; t++) {
                    x.reading(1, t == 0 ? 1 : 0);
                }
                boolean taken = k >= 0 && k <= many;
                int left = taken ? many - k : many;
                DUE.is("27 back " + k + " of " + many, x.back(k), taken ? left : OUTSIDE);
                DUE.is("27 left of " + many, x.many(5), left);
                DUE.is("28 the first is left, or not", x.fits(0), left == 0 ? 4 : left == 1 ? 2 : 0);
            }
        }
    }

    /** "How many sets FIT; SURE: of all of them; NEVER: of none": with nothing read, one, none that fits. */
    private static void fits() {
        for (int n = 0; n <= 8; n++) {
            LampWays x = loads(ones(n));
            fit("nothing read of " + n, x, 1 << n, 0, 0, n == 0 ? NONE : 0);
            x.reading(0, 0);
            fit("nothing on of " + n, x, 1 << n, 0, 0, n == 0 ? NONE : 0);
            x.reading(0, 1);
            fit("something from nothing of " + n, x, 0, 0, 0, NONE);
        }
        LampWays all = loads(1, 2, 4, 8, 16, 16, 8, 4);
        all.reading(255, 59);
        fit("all are on and mine", all, 1, 255, 0, NONE);
        all.back(1);
        all.reading(255, 0);
        fit("all are on and none mine", all, 1, 0, 255, NONE);
        all.back(1);
        all.reading(255, 60);
        fit("one more than all", all, 0, 0, 0, NONE);
        all.back(1);
        all.reading(31, 21);
        fit("three of five, three not read", all, 8, 21, 10, 5);
        all.reading(128, 4);
        fit("and the last", all, 4, 149, 10, 5);
        all.reading(64, 0);
        fit("and the last but one", all, 2, 149, 74, 5);
        all.reading(32, 0);
        fit("and the last of them", all, 1, 149, 106, NONE);
    }

    /** "the LOADS of those that are on, of MINE": of those that are off nothing is told. */
    private static void onAndOff() {
        LampWays x = loads(5, 5);
        x.reading(1, 5);
        fit("one on, mine", x, 2, 1, 0, 1);
        x.reading(2, 0);
        fit("the other on, not mine", x, 1, 1, 2, NONE);
        x.reading(3, 5);
        fit("both on", x, 1, 1, 2, NONE);
        x.back(3);
        x.reading(1, 4);
        fit("one less than its load", x, 0, 0, 0, NONE);
        x.back(1);
        x.reading(1, 6);
        fit("one more than its load", x, 0, 0, 0, NONE);
        x.load(0, 6);
        fit("its load is more now", x, 2, 1, 0, 1);
    }

    /** "NEXT: as evenly as can be (the greater of both parts the least); of several the least number". */
    private static void next() {
        LampWays one = loads(7);
        fit("one point", one, 2, 0, 0, 0);
        one.reading(1, 0);
        fit("one point, known", one, 1, 0, 1, NONE);
        LampWays last = loads(1, 1, 1, 1, 1, 1, 1, 20);
        last.reading(127, 1);
        fit("seven uneven and the last even", last, 14, 0, 0, 7);
        last.reading(128, 20);
        fit("seven uneven, the last known", last, 7, 128, 0, 0);
        last.reading(1, 0);
        fit("six uneven", last, 6, 128, 1, 1);
        LampWays most = loads(1, 1, 1, 20);
        most.reading(7, 2);
        fit("the greater part is with it", most, 6, 0, 0, 3);
        LampWays second = loads(3, 2, 1, 1);
        second.reading(15, 4);
        fit("the first alike", second, 3, 0, 0, 0);
        LampWays late = loads(4, 1, 1, 2, 2);
        late.reading(31, 2);
        fit("a known one ahead", late, 3, 0, 1, 1);
    }

    public static void main(String[] args) {
        sets();
        shown();
        twelve();
        back();
        fits();
        onAndOff();
        next();
        DUE.end();
    }
}
