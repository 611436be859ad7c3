import java.util.LinkedHashMap;
import java.util.Map;

/**
 * Answers are of what is now: the same questions are asked ahead of a change and behind it, and behind it of another
 * object, too, that was asked nothing ahead. So no answer is kept from an earlier one, and none depends on what else
 * was asked.
 */
public final class NowTest {
    private static final Due DUE = new Due("NowTest");
    private static final int NONE = LampWays.NONE;
    private static final Map<String, Twins.Call> QUESTIONS = new LinkedHashMap<>();

    /** A ring of four places, of 2, 3, 4 and 5 yards; way 0 a ring of the points 0, 1, way 1 a chain of point 2. */
    private static LampWays made() {
        LampWays x = Lamps.told("h4;b0;012;123d4;234;305");
        x.point(1, 4, 0);
        x.point(2, 6, 0);
        x.point(3, 2, 1);
        Lamps.lay(x, 1, 7, 0, 1);
        Lamps.lay(x, 0, 9, 2);
        x.reading(7, 6);
        return x;
    }

    private static void question(String name, Twins.Call call) {
        QUESTIONS.put(name, call);
    }

    private static void questions() {
        question("5 yards", x -> x.run(0, 2, 0));
        question("5 drilled", x -> x.run(0, 2, 1));
        question("6 along", x -> x.along(0, 2, 0));
        question("9 its way", x -> x.ofPoint(2, 3));
        question("14 cable", x -> x.cable(0, 0));
        question("14 drills", x -> x.cable(0, 1));
        question("15 carries", x -> x.carries(0, 1, 0));
        question("15 carries, lower", x -> x.carries(0, 1, 1));
        question("16 drop", x -> x.drop(0, 1, 0));
        question("17 too much", x -> x.tooMuch(0));
        question("18 least", x -> x.least(7, 0));
        question("18 least of a ring", x -> x.least(7, 1));
        question("19 order", x -> x.order(7, 0, 0));
        question("20 plan", x -> x.plan(2, 11, true));
        question("21 on", x -> x.on(2, 11, true, 2));
        question("22 best", x -> x.best(2, 11, true));
        question("23 costs", x -> x.costs(1, 2, 11, true));
        question("24 cores", x -> x.cores(2, 10));
        question("25 door", x -> x.door(2, 10, 0));
        question("28 fits", x -> x.fits(0));
        question("28 sure", x -> x.fits(1));
        question("29 next", x -> x.next());
        question("35 tell", x -> x.tell(1));
        question("40 ways", x -> x.many(4));
    }

    private static Map<String, Long> answers(LampWays x) {
        Map<String, Long> all = new LinkedHashMap<>();
        QUESTIONS.forEach((name, call) -> all.put(name, call.of(x)));
        return all;
    }

    /** Those named have to answer otherwise than ahead of the change, all others as they like. */
    private static void change(String label, Twins.Call change, String... otherwise) {
        LampWays asked = made();
        Map<String, Long> ahead = answers(asked);
        change.of(asked);
        Map<String, Long> behind = answers(asked);
        LampWays other = made();
        change.of(other);
        Map<String, Long> alone = answers(other);
        for (String name : QUESTIONS.keySet()) {
            DUE.is(name + " behind " + label, behind.get(name), alone.get(name));
        }
        for (String name : otherwise) {
            DUE.holds(name + " is another one behind " + label, !behind.get(name).equals(ahead.get(name)));
        }
        Map<String, Long> again = answers(asked);
        for (String name : QUESTIONS.keySet()) {
            DUE.is(name + " behind " + label + ", asked again", again.get(name), behind.get(name));
        }
    }

    /** What is due ahead of any change, by hand. */
    private static void ahead() {
        long[] due = {
            5, 4, 0, 1, 10, 8, 11, 5, 19, NONE, 9, 14, 0, 11, 1, 1, 0, 25, 1, 2, 0, 0, 1, 2,
        };
        Map<String, Long> all = answers(made());
        int t = 0;
        for (Map.Entry<String, Long> answer : all.entrySet()) {
            DUE.is(answer.getKey() + " ahead", answer.getValue(), due[t]);
            t++;
        }
        DUE.is("the table", due.length, t);
    }

    public static void main(String[] args) {
        questions();
        ahead();
        change("shut", x -> x.shut(0, true), "5 yards", "5 drilled", "6 along", "14 cable", "15 carries", "16 drop",
                "18 least", "19 order", "20 plan", "23 costs", "24 cores", "25 door");
        change("another one shut", x -> x.shut(1, true), "5 yards", "5 drilled", "6 along", "14 cable", "14 drills",
                "15 carries", "16 drop", "18 least", "24 cores");
        change("shut and open", x -> x.shut(0, true) + x.shut(0, false));
        change("the box", x -> x.box(2), "14 cable", "15 carries", "16 drop", "18 least", "20 plan", "24 cores");
        change("the box elsewhere", x -> x.box(3), "18 least", "19 order", "24 cores", "25 door");
        change("a load", x -> x.load(1, 20), "15 carries", "16 drop", "17 too much", "20 plan", "21 on", "22 best",
                "23 costs", "28 fits", "28 sure", "29 next");
        change("a point", x -> x.point(2, 1, 1), "20 plan", "28 fits");
        change("a way away", x -> x.away(1), "9 its way", "35 tell", "40 ways");
        change("a way", x -> {
            x.away(1);
            return Lamps.lay(x, 2, 9, 2);
        }, "9 its way", "35 tell");
        change("a reading", x -> x.reading(1, 0), "28 fits", "28 sure", "29 next");
        change("a reading back", x -> x.back(1), "28 fits");
        change("another house", x -> Lamps.tell(x, "h4;b1;019;129;239;309"), "5 yards", "5 drilled", "14 cable",
                "15 carries", "18 least", "20 plan", "21 on", "22 best", "24 cores", "28 fits", "35 tell", "40 ways");
        DUE.end();
    }
}
