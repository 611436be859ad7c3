import java.util.Map;
import java.util.TreeMap;
import java.util.TreeSet;
import java.util.function.Supplier;

/**
 * Each call that is taken, in the order of the promises: it changes what its line tells and nothing else. All that two
 * objects made alike hold is compared, one of which was asked the call.
 */
public final class ChangesTest {
    private static final Due DUE = new Due("ChangesTest");
    private static final int NONE = LampWays.NONE;
    private static final long GONE = 1L << 40;

    /** As Twins.some(), with a fault told ahead, so that it is seen whether the call leaves it. */
    private static LampWays some() {
        LampWays x = Twins.some();
        x.sheet(0, 0, -1);
        return x;
    }

    private static LampWays fresh() {
        LampWays x = new LampWays();
        x.sheet(0, 0, -1);
        return x;
    }

    /** Changes are told as a name of Held and its new value, one after another; GONE, if it is not there any more. */
    private static void taken(String label, Supplier<LampWays> making, Twins.Call call, long want, Object... changes) {
        Map<String, Long> due = new TreeMap<>(Held.of(making.get()));
        for (int t = 0; t + 1 < changes.length; t += 2) {
            due.put((String) changes[t], ((Number) changes[t + 1]).longValue());
        }
        due.values().removeIf(v -> v == GONE);
        LampWays asked = making.get();
        DUE.is(label, call.of(asked), want);
        Map<String, Long> held = Held.of(asked);
        TreeSet<String> names = new TreeSet<>(due.keySet());
        names.addAll(held.keySet());
        for (String name : names) {
            DUE.is(label + ", afterwards " + name, held.getOrDefault(name, GONE), due.getOrDefault(name, GONE));
        }
    }

    private static void taken(String label, Twins.Call call, long want, Object... changes) {
        taken(label, ChangesTest::some, call, want, changes);
    }

    /** What is held, told once as numbers, so that the comparison is not one of nothing with nothing. */
    private static void whatIsHeld() {
        Map<String, Long> held = Held.of(some());
        String[] names = {
            "fault()", "many(0)", "many(1)", "many(2)", "many(3)", "many(4)", "many(5)", "ofRun(0, 3)", "ofRun(2, 4)",
            "box", "ofPoint(2, 1)", "ofPoint(3, 3)", "ofWay(0, 11)", "ofWay(2, 0)", "lane of 0", "lane of 3",
            "cell 32 of 3", "cell 5 of 2", "fits(0) by 2", "fits(1) by 2", "fits(0) by 1", "fits(0) by 0",
            "the next point", "the next way",
        };
        long[] due = {4, 5, 6, 1, 5, 2, 2, 2, 1, 1, 20, 2, 1, 2, -1, 0, '3', -1, 4, 17, 8, 32, 5, 3};
        for (int t = 0; t < names.length; t++) {
            DUE.is("1 held: " + names[t], held.getOrDefault(names[t], GONE), due[t]);
        }
        Map<String, Long> none = Held.of(fresh());
        DUE.is("1 a new object holds its number of names", none.size(), 2 + 6 + 1 + 4 + 3 + 2);
    }

    /** Promise 2: "makes all anew: no POINTS, WAYS, READINGS, no RUN is SHUT"; TRACE and SHEETS are not among them. */
    private static void house() {
        Object[] anew = {
            "fault()", 0, "many(2)", 0, "ofRun(2, 4)", 0, "box", 0, "many(3)", 0, "many(4)", 0, "many(5)", 0,
            "ofWay(0, 0)", GONE, "ofWay(0, 1)", GONE, "ofWay(0, 2)", GONE, "ofWay(0, 3)", GONE, "ofWay(0, 10)", GONE,
            "ofWay(0, 11)", GONE, "ofWay(2, 0)", GONE, "ofWay(2, 1)", GONE, "ofWay(2, 2)", GONE, "ofWay(2, 3)", GONE,
            "ofWay(2, 10)", GONE, "fits(0) by 0", 1, "the next point", 0, "the next way", 0,
        };
        Object[] changes = java.util.Arrays.copyOf(anew, anew.length + 2 * (5 * 4 + 2 * 3));
        int at = anew.length;
        for (int p = 0; p < 5; p++) {
            for (int what = 0; what <= 3; what++, at += 2) {
                changes[at] = "ofPoint(" + p + ", " + what + ")";
                changes[at + 1] = GONE;
            }
        }
        for (int left = 1; left <= 2; left++) {
            for (int what = 0; what <= 2; what++, at += 2) {
                changes[at] = "fits(" + what + ") by " + left;
                changes[at + 1] = GONE;
            }
        }
        taken("2 the same text again", x -> x.house(3, 0, 0, 33), 6, changes);
    }

    /** Promises 3 to 7. */
    private static void runsAndBox() {
        for (int t = 0; t <= 4; t++) {
            int what = t;
            taken("3 ofRun, " + what, x -> x.ofRun(0, what), new int[] {0, 1, 3, 2, 0}[what]);
        }
        taken("4 shut", x -> x.shut(0, true), 1, "many(2)", 2, "ofRun(0, 4)", 1);
        taken("4 shut, the last", x -> x.shut(5, true), 1, "many(2)", 2, "ofRun(5, 4)", 1);
        taken("4 open", x -> x.shut(2, false), 1, "many(2)", 0, "ofRun(2, 4)", 0);
        taken("4 shut, was so", x -> x.shut(2, true), 0);
        taken("4 open, was so", x -> x.shut(0, false), 0);
        taken("5 yards", x -> x.run(2, 3, 0), 5);
        taken("5 drilled", x -> x.run(2, 0, 1), 2);
        taken("5 runs", x -> x.run(2, 4, 2), 3);
        taken("6 along", x -> x.along(2, 4, 2), 3);
        taken("6 along, none", x -> x.along(2, 4, 3), NONE);
        taken("7 box", x -> x.box(4), 1, "box", 4);
        taken("7 box, where it was", x -> x.box(1), 1);
    }

    /** Promises 8 to 13. */
    private static void pointsAndWays() {
        taken("8 point", x -> x.point(4, 20, 5), 5, "many(3)", 6, "ofPoint(5, 0)", 4, "ofPoint(5, 1)", 20,
                "ofPoint(5, 2)", 5, "ofPoint(5, 3)", NONE, "fits(0) by 2", 8, "fits(0) by 1", 16, "fits(0) by 0", 64,
                "the next point", 6);
        for (int t = 0; t <= 3; t++) {
            int what = t;
            taken("9 ofPoint, " + what, x -> x.ofPoint(3, what), new int[] {2, 1, 1, 2}[what]);
        }
        taken("10 load", x -> x.load(2, 1), 20, "ofPoint(2, 1)", 1);
        taken("10 load, as it was", x -> x.load(2, 20), 20);
        for (int t = 0; t <= 2; t++) {
            int kind = t;
            taken("11 way of kind " + kind, x -> x.way(kind, 99, 2, 2, 0, 2), 3, "fault()", 0, "many(4)", 3,
                    "ofWay(3, 0)", kind, "ofWay(3, 1)", 99, "ofWay(3, 2)", 2, "ofWay(3, 3)", kind == 0 ? 2 : 3,
                    "ofWay(3, 10)", 4, "ofWay(3, 11)", 2, "ofPoint(4, 3)", 3, "ofPoint(2, 3)", 3, "the next way", 4);
        }
        taken("12 away", x -> x.away(0), 2, "many(4)", 1, "ofWay(0, 0)", GONE, "ofWay(0, 1)", GONE, "ofWay(0, 2)", GONE,
                "ofWay(0, 3)", GONE, "ofWay(0, 10)", GONE, "ofWay(0, 11)", GONE, "ofPoint(0, 3)", NONE,
                "ofPoint(1, 3)", NONE);
        taken("12 away, the last", x -> x.away(2), 1, "many(4)", 1, "ofWay(2, 0)", GONE, "ofWay(2, 1)", GONE,
                "ofWay(2, 2)", GONE, "ofWay(2, 3)", GONE, "ofWay(2, 10)", GONE, "ofPoint(3, 3)", NONE);
        for (int t = 0; t <= 5; t++) {
            int what = t < 4 ? t : t + 6;
            int due = new int[] {0, 12, 2, 2, 0, 1}[t];
            taken("13 ofWay, " + what, x -> x.ofWay(0, what), due);
        }
    }

    /** Promises 14 to 25: questions, which change nothing. */
    private static void questions() {
        taken("14 cable", x -> x.cable(2, 0), 8);
        taken("14 drills", x -> x.cable(2, 1), 0);
        taken("15 carries", x -> x.carries(2, 1, 0), -1);
        taken("15 carries, lower", x -> x.carries(2, 1, 1), 2);
        taken("16 drop", x -> x.drop(2, 0, 0), 1);
        taken("16 drop, lower", x -> x.drop(2, 0, 1), 2);
        taken("17 tooMuch", x -> x.tooMuch(0), NONE);
        taken("18 least", x -> x.least(31, 0), 11);
        taken("18 least of a ring", x -> x.least(31, 1), 18);
        taken("19 order", x -> x.order(31, 0, 4), 2);
        taken("19 order of a ring", x -> x.order(31, 1, 4), 4);
        taken("20 plan", x -> x.plan(3, 99, true), 9);
        taken("21 on", x -> x.on(3, 99, true, 2), 1);
        taken("22 best, where the box is", x -> x.best(3, 99, true), 1);
        taken("22 best, elsewhere", x -> x.best(1, 99, false), 2);
        taken("23 costs", x -> x.costs(5, 3, 99, true), 5);
        taken("23 costs of a shut one", x -> x.costs(2, 3, 99, true), 0);
        taken("23 costs, none", x -> x.costs(1, 3, 99, true), NONE);
        taken("24 cores", x -> x.cores(0, 30), 28);
        taken("25 door", x -> x.door(0, 30, 3), 4);
    }

    /** Promises 26 to 29. */
    private static void readings() {
        taken("26 reading", x -> x.reading(2, 0), 2, "many(5)", 3, "fits(0) by 3", 4, "fits(1) by 3", 17,
                "fits(2) by 3", 2);
        taken("26 reading of none", x -> x.reading(0, 200), 2, "many(5)", 3, "fits(0) by 3", 0, "fits(1) by 3", 0,
                "fits(2) by 3", 0);
        taken("27 back", x -> x.back(1), 1, "many(5)", 1, "fits(0) by 2", GONE, "fits(1) by 2", GONE,
                "fits(2) by 2", GONE);
        taken("27 all back", x -> x.back(2), 0, "many(5)", 0, "fits(0) by 2", GONE, "fits(1) by 2", GONE,
                "fits(2) by 2", GONE, "fits(0) by 1", GONE, "fits(1) by 1", GONE, "fits(2) by 1", GONE);
        taken("27 none back", x -> x.back(0), 2);
        taken("28 fits", x -> x.fits(0), 4);
        taken("28 sure", x -> x.fits(1), 17);
        taken("28 never", x -> x.fits(2), 2);
        taken("29 next", x -> x.next(), 2);
    }

    /** Promises 30 to 34: of sheets; what names FAULTS tells that it came to none. */
    private static void sheets() {
        taken("30 sheet for nothing", x -> x.sheet(0, 2, 2), 1, "fault()", 0, "lane of 0", 2, "cell 0 of 0", 0,
                "cell 1 of 0", 0);
        taken("30 sheet for another", x -> x.sheet(1, 0, 1), 1, "fault()", 0, "lane of 1", 0, "cell 0 of 1", 0,
                "cell 1 of 1", GONE, "cell 2 of 1", GONE, "cell 3 of 1", GONE);
        taken("30 sheet of none", x -> x.sheet(1, 1, 0), 1, "fault()", 0, "cell 0 of 1", GONE, "cell 1 of 1", GONE,
                "cell 2 of 1", GONE, "cell 3 of 1", GONE);
        taken("31 lose", x -> x.lose(1), 1, "lane of 1", -1, "cell 0 of 1", GONE, "cell 1 of 1", GONE,
                "cell 2 of 1", GONE, "cell 3 of 1", GONE);
        taken("31 lose, had nothing", x -> x.lose(0), 0);
        taken("32 put", x -> x.put(1, 2, 70001), 1, "fault()", 0, "cell 2 of 1", 4465);
        taken("33 cell", x -> x.cell(2, 5, 2), -1, "fault()", 0);
        taken("34 copy on itself", x -> x.copy(2, 0, 2, 1, 3), 3, "fault()", 0, "cell 1 of 2", 4, "cell 2 of 2", 2,
                "cell 3 of 2", 4);
        taken("34 copy of none", x -> x.copy(2, 7, 2, 0, 0), 0, "fault()", 0);
        Supplier<LampWays> alike = () -> {
            LampWays x = some();
            x.sheet(0, 1, 2);
            x.put(0, 2, 0);
            return x;
        };
        taken("34 copy to another", alike, x -> x.copy(1, 1, 0, 0, 2), 2, "fault()", 0, "cell 0 of 0", 2,
                "cell 1 of 0", 4);
    }

    /** Promises 35 to 40: bodies leave their numbers in TRACE, nothing else does. */
    private static void parts() {
        int trace = Twins.some().trace();
        DUE.is("38 a strong one was told ahead", trace, ((3 * 31 + 2) * 31 + 1) * 31 + 1);
        taken("35 tell a chain", x -> x.tell(0), 2, "trace()", 31 * trace + 1);
        taken("35 tell a strong one", x -> x.tell(2), 102, "trace()",
                (((31 * trace + 3) * 31 + 2) * 31 + 1) * 31 + 1);
        taken("36 label a chain", x -> x.label(0), 0, "trace()", 31 * trace + 4);
        taken("36 label a strong one", x -> x.label(2), 70, "trace()", 31 * trace + 5);
        taken("37 a chain as a chain", x -> x.as(0, 0), 1, "fault()", 0);
        taken("37 a strong one as a ring", x -> x.as(2, 1), 1, "fault()", 0);
        taken("37 a strong one as such", x -> x.as(2, 2), 1, "fault()", 0);
        taken("37 a chain as a ring", x -> x.as(0, 1), -12, "fault()", 2);
        taken("38 trace", x -> x.trace(), trace);
        taken("39 fault", x -> x.fault(), 4);
        for (int t = 0; t <= 5; t++) {
            int what = t;
            taken("40 many " + what, x -> x.many(what), new int[] {5, 6, 1, 5, 2, 2}[what]);
        }
        Supplier<LampWays> ring = () -> {
            LampWays x = some();
            x.away(0);
            Lamps.lay(x, 1, 9, 0, 1);
            x.sheet(0, 0, -1);
            return x;
        };
        taken("35 tell a ring", ring, x -> x.tell(3), 102, "trace()", (31 * trace + 2) * 31 + 1);
        taken("36 label a ring", ring, x -> x.label(3), 3, "trace()", 31 * trace + 4);
        taken("37 a ring as a chain", ring, x -> x.as(3, 0), 1, "fault()", 0);
    }

    /** The calls that a new object takes without a house. */
    private static void ofNothing() {
        taken("18 to 29 of nothing: reading", ChangesTest::fresh, x -> x.reading(0, 0), 0, "many(5)", 1,
                "fits(0) by 1", 1, "fits(1) by 1", 0, "fits(2) by 1", 0);
        taken("27 of nothing", ChangesTest::fresh, x -> x.back(0), 0);
        taken("28 of nothing", ChangesTest::fresh, x -> x.fits(0), 1);
        taken("29 of nothing", ChangesTest::fresh, x -> x.next(), NONE);
        taken("30 of nothing", ChangesTest::fresh, x -> x.sheet(3, 1, 1), 1, "fault()", 0, "lane of 3", 1,
                "cell 0 of 3", 0);
        taken("31 of nothing", ChangesTest::fresh, x -> x.lose(3), 0);
        taken("38 of nothing", ChangesTest::fresh, x -> x.trace(), 0);
        taken("40 of nothing", ChangesTest::fresh, x -> x.many(0), 0);
    }

    public static void main(String[] args) {
        whatIsHeld();
        house();
        runsAndBox();
        pointsAndWays();
        questions();
        readings();
        sheets();
        parts();
        ofNothing();
        DUE.end();
    }
}
