import java.util.Map;
import java.util.TreeMap;

/**
 * All that an object holds, asked out of it call by call: two objects that hold the same answer everything alike. The
 * asking itself changes the object, so it is of no use afterwards; it takes some two hundred of its 512 calls.
 */
final class Held {
    private static final int UNKNOWN = LampWays.UNKNOWN;
    private final Map<String, Long> all = new TreeMap<>();
    private final LampWays x;

    private Held(LampWays x) {
        this.x = x;
        note("fault()", x.fault());
        note("trace()", x.trace());
        for (int what = 0; what <= 5; what++) {
            note("many(" + what + ")", x.many(what));
        }
        runs();
        points();
        for (int way = 0; way < 6; way++) {
            way(way);
        }
        for (int k = 0; k <= 3; k++) {
            sheet(k);
        }
        readings();
        numbersThatAreNext();
    }

    static Map<String, Long> of(LampWays x) {
        return new Held(x).all;
    }

    private void note(String what, long answer) {
        all.put(what, answer);
    }

    private void runs() {
        for (int k = 0; k < x.many(1); k++) {
            for (int what = 0; what <= 4; what++) {
                note("ofRun(" + k + ", " + what + ")", x.ofRun(k, what));
            }
        }
        int box = x.box(0);
        x.box(box);
        note("box", box);
    }

    private void points() {
        for (int p = 0; p < x.many(3); p++) {
            for (int what = 0; what <= 3; what++) {
                note("ofPoint(" + p + ", " + what + ")", x.ofPoint(p, what));
            }
        }
    }

    private void way(int way) {
        int many = x.ofWay(way, 2);
        if (many == UNKNOWN) {
            return;
        }
        for (int what = 0; what < 10 + many; what += what == 3 ? 7 : 1) {
            note("ofWay(" + way + ", " + what + ")", x.ofWay(way, what));
        }
    }

    /** The lane is the one as which the sheet is no CAST; -1, if it has nothing. */
    private void sheet(int k) {
        int lane = -1;
        for (int as = 0; as <= 2; as++) {
            x.cell(k, -1, as);
            lane = x.fault() == 3 ? as : lane;
        }
        note("lane of " + k, lane);
        int n = 0;
        for (long v = x.cell(k, 0, Math.max(0, lane)); v != LampWays.LOST; v = x.cell(k, n, lane)) {
            note("cell " + n + " of " + k, v);
            n++;
        }
    }

    /** Each reading is seen by what fits as long as it is the last one, then it is taken back. */
    private void readings() {
        for (int left = x.many(5); left >= 0; left--) {
            for (int what = 0; what <= 2; what++) {
                note("fits(" + what + ") by " + left, x.fits(what));
            }
            if (left > 0) {
                x.back(1);
            }
        }
    }

    private void numbersThatAreNext() {
        int p = x.point(0, 1, 0);
        note("the next point", p);
        x.sheet(0, 2, 1);
        x.put(0, 0, p);
        note("the next way", x.way(0, 1, 0, 2, 0, 1));
    }
}
