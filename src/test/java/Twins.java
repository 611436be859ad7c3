import java.util.ArrayList;
import java.util.List;
import java.util.function.Supplier;

/** Two objects made alike: one is asked a call that is refused, afterwards both have to answer everything alike. */
final class Twins {
    interface Call {
        long of(LampWays x);
    }

    private final Due due;
    private final Supplier<LampWays> making;

    Twins(Due due, Supplier<LampWays> making) {
        this.due = due;
        this.making = making;
    }

    /** A call that names no FAULTS: it leaves what fault() tells, too. */
    void refused(String label, Call call, long want) {
        LampWays asked = making.get();
        asked.sheet(0, 0, -1);
        due.is(label, call.of(asked), want);
        due.is(label + ", leaves fault()", asked.fault(), 4);
        alike(label, asked);
    }

    /** A call that names FAULTS: refused, or faulty by the fault told (0: refused). */
    void faulty(String label, Call call, long want, int fault) {
        LampWays asked = making.get();
        if (fault == 4) {
            asked.put(0, -1, 0);
        } else {
            asked.sheet(0, 0, -1);
        }
        due.holds(label + ", another fault ahead of it", asked.fault() != fault);
        due.is(label, call.of(asked), want);
        due.is(label + ", fault()", asked.fault(), fault);
        due.is(label + ", fault() once more", asked.fault(), fault);
        alike(label, asked);
    }

    private void alike(String label, LampWays asked) {
        Seen was = new Seen(making.get());
        Seen is = new Seen(asked);
        due.is(label + ", how much is seen afterwards", is.answers.size(), was.answers.size());
        for (int t = 0; t < is.answers.size() && t < was.answers.size(); t++) {
            due.is(label + ", afterwards " + is.calls.get(t), is.answers.get(t), was.answers.get(t));
        }
    }

    /**
     * Five places, the box moved to 1, run 2 shut; points 0 .. 4; ways 0 (chain of 0, 1) and 2 (strong, of 3), way 1
     * taken away; two readings; sheet 0 has nothing, 1 four shorts, 2 seven ints, 3 the text's 33 bytes.
     */
    static LampWays some() {
        LampWays x = Lamps.told(Lamps.FIVE);
        int[][] points = {{1, 5, 0}, {3, 7, 0}, {4, 20, 1}, {2, 1, 1}, {1, 9, 2}};
        for (int[] p : points) {
            x.point(p[0], p[1], p[2]);
        }
        Lamps.lay(x, 0, 12, 0, 1);
        Lamps.lay(x, 1, 12, 2);
        Lamps.lay(x, 2, 4, 3);
        x.away(1);
        x.reading(3, 5);
        x.reading(16, 9);
        x.shut(2, true);
        x.box(1);
        x.tell(2);
        fill(x, 1, 1, 4, 2, 4, 2);
        fill(x, 2, 2, 4, 2, 4, 0, 5, -1, 2);
        return x;
    }

    /** As many points, ways and readings as there may be; points 6 and 7 are of no way, way 5 is taken away. */
    static LampWays full() {
        LampWays x = Lamps.lit("h2;b0;011d1", 0, 1, 0, 1, 0, 1, 0, 1);
        for (int p = 0; p < 6; p++) {
            Lamps.lay(x, p % 3, 9, p);
        }
        x.away(5);
        for (int k = 0; k < 12; k++) {
            x.reading(1, 0);
        }
        fill(x, 1, 1, 6, 7, 5, 0);
        fill(x, 2, 2, 6, 7, 6, 8);
        return x;
    }

    /** Places 0, 1, 2 in a row and 3, 4 on their own side; points at each; ways over to the other side. */
    static LampWays parted() {
        LampWays x = Lamps.lit("h5;b0;011;121;341", 1, 3, 2, 4);
        Lamps.lay(x, 0, 9, 0, 1);
        Lamps.lay(x, 1, 9, 3);
        Lamps.lay(x, 2, 9, 2);
        return x;
    }

    static LampWays unlit() {
        return Lamps.told(Lamps.FIVE);
    }

    static void fill(LampWays x, int sheet, int lane, int... values) {
        x.sheet(sheet, lane, values.length);
        for (int i = 0; i < values.length; i++) {
            x.put(sheet, i, values[i]);
        }
    }

    /** What an object answers to some three hundred calls; the last of them change it. */
    private static final class Seen {
        final List<String> calls = new ArrayList<>();
        final List<Long> answers = new ArrayList<>();
        private final LampWays x;

        Seen(LampWays x) {
            this.x = x;
            for (int what = 0; what <= 5; what++) {
                note("many(" + what + ")", x.many(what));
            }
            note("trace()", x.trace());
            house();
            points();
            ways();
            meters();
            for (int k = 0; k <= 3; k++) {
                sheet(k);
            }
            numbersThatAreNext();
        }

        private void note(String call, long answer) {
            calls.add(call);
            answers.add(answer);
        }

        private void house() {
            int places = x.many(0);
            for (int k = 0; k < x.many(1); k++) {
                for (int what = 0; what <= 4; what++) {
                    note("ofRun(" + k + ", " + what + ")", x.ofRun(k, what));
                }
            }
            for (int a = 0; a < places; a++) {
                for (int b = a + 1; b < places; b++) {
                    note("run(" + a + ", " + b + ", 0)", x.run(a, b, 0));
                }
            }
            note("along(0, last, 0)", x.along(0, places - 1, 0));
            int was = x.box(0);
            note("box(0)", was);
            note("box back", x.box(was));
        }

        private void points() {
            for (int p = 0; p < x.many(3); p++) {
                for (int what = 0; what <= 3; what++) {
                    note("ofPoint(" + p + ", " + what + ")", x.ofPoint(p, what));
                }
            }
            note("plan(3, 99, false)", x.plan(3, 99, false));
        }

        private void ways() {
            for (int way = 0; way < 6; way++) {
                note("ofWay(" + way + ", 0)", x.ofWay(way, 0));
                note("ofWay(" + way + ", 1)", x.ofWay(way, 1));
                note("ofWay(" + way + ", 10)", x.ofWay(way, 10));
                note("ofWay(" + way + ", 11)", x.ofWay(way, 11));
                note("cable(" + way + ", 0)", x.cable(way, 0));
                note("drop(" + way + ", 0, 0)", x.drop(way, 0, 0));
            }
        }

        private void meters() {
            for (int what = 0; what <= 2; what++) {
                note("fits(" + what + ")", x.fits(what));
            }
            note("next()", x.next());
        }

        private void sheet(int k) {
            for (int lane = 0; lane <= 2; lane++) {
                for (int i = 0; i < 40; i++) {
                    long v = x.cell(k, i, lane);
                    note("cell(" + k + ", " + i + ", " + lane + ")", v);
                    if (v == LampWays.LOST) {
                        note("its fault()", x.fault());
                        break;
                    }
                }
            }
        }

        private void numbersThatAreNext() {
            if (x.many(5) > 0) {
                note("back(1)", x.back(1));
                note("fits(0)", x.fits(0));
            }
            note("reading(0, 0)", x.reading(0, 0));
            note("point(0, 1, 0)", x.point(0, 1, 0));
            fill(x, 0, 0, x.many(3) - 1);
            note("way of the last point", x.way(0, 1, 0, 0, 0, 1));
            note("tell(0)", x.tell(0));
            note("trace()", x.trace());
        }
    }
}
