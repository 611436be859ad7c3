import java.util.Random;

/** Runs of calls, made up from fixed seeds, of which every answer has to be the plain model's. */
public final class ModelTest {
    private static final int RUNS = 500;
    private static final int[] ODD = {-1, -2, Integer.MIN_VALUE, Integer.MAX_VALUE, 100, 1000, 255, 256, 65536 + 3};
    private static final String[] ASKED = {
        "ofRun", "shut", "run", "along", "box", "point", "ofPoint", "load", "away", "ofWay", "cable", "carries",
        "drop", "tooMuch", "least", "order", "plan", "on", "best", "costs", "cores", "door", "reading", "back",
        "fits", "next", "sheet", "lose", "put", "cell", "copy", "tell", "label", "as", "trace", "many", "way", "house",
    };

    private final Random random;
    private final Pair pair;
    private final Model model;

    private ModelTest(Due due, int seed) {
        random = new Random(seed);
        pair = new Pair(due, "seed " + seed);
        model = pair.model();
    }

    private void ask(String name, Object... given) {
        pair.ask(name, given);
    }

    /** Below the bound for the most part, else at it, just past it, or far away. */
    private int about(int bound) {
        int way = random.nextInt(20);
        if (way == 0) {
            return ODD[random.nextInt(ODD.length)];
        }
        return way == 1 ? bound : random.nextInt(Math.max(1, bound));
    }

    private String text() {
        int places = 2 + random.nextInt(7);
        StringBuilder s = new StringBuilder("h" + places + ";b" + random.nextInt(places));
        int runs = random.nextInt(4) == 0 ? 14 : 1 + random.nextInt(14);
        int longest = random.nextInt(3) == 0 ? 2 : 9;
        for (int k = 0; k < runs; k++) {
            int a = random.nextInt(places);
            int b = (a + 1 + random.nextInt(places - 1)) % places;
            s.append(';').append(a).append(b).append(1 + random.nextInt(longest));
            if (random.nextInt(3) == 0) {
                s.append('d').append(1 + random.nextInt(longest));
            }
        }
        return s.toString();
    }

    private String spoiled(String text) {
        StringBuilder s = new StringBuilder(text);
        String signs = "hbd;0123456789?";
        int at = random.nextInt(s.length());
        switch (random.nextInt(4)) {
            case 0:
                s.setLength(at);
                break;
            case 1:
                s.deleteCharAt(at);
                break;
            case 2:
                s.insert(at, signs.charAt(random.nextInt(signs.length())));
                break;
            default:
                s.setCharAt(at, signs.charAt(random.nextInt(signs.length())));
        }
        return s.length() > 95 ? s.substring(0, 95) : s.toString();
    }

    private void tellHouse(String text) {
        int k = random.nextInt(4);
        int lane = random.nextInt(3);
        int ahead = random.nextInt(3);
        ask("sheet", k, lane, text.length() + ahead);
        for (int i = 0; i < text.length(); i++) {
            ask("put", k, ahead + i, (int) text.charAt(i));
        }
        ask("house", k, lane, ahead, text.length());
        ask("fault");
    }

    private void layWay() {
        int k = random.nextInt(4);
        int lane = random.nextInt(3);
        int n = 1 + random.nextInt(6);
        ask("sheet", k, lane, n);
        int p = random.nextInt(8);
        for (int i = 0; i < n; i++) {
            ask("put", k, i, p);
            p = random.nextInt(12) == 0 ? about(9) : (p + 1 + random.nextInt(2)) % Math.max(1, model.many(3));
        }
        ask("way", about(3), 1 + random.nextInt(60), k, lane, 0, n);
        ask("fault");
    }

    private Object[] given(String name) {
        int places = model.many(0);
        int runs = model.many(1);
        int points = model.many(3);
        switch (name) {
            case "ofRun": return new Object[] {about(runs), about(5)};
            case "shut": return new Object[] {about(runs), random.nextInt(3) == 0};
            case "run": return new Object[] {about(places), about(places), about(3)};
            case "along": return new Object[] {about(places), about(places), about(5)};
            case "box": return new Object[] {about(places)};
            case "point": return new Object[] {about(places), 1 + about(20), about(6)};
            case "ofPoint": return new Object[] {about(points), about(4)};
            case "load": return new Object[] {about(points), 1 + about(20)};
            case "ofWay": return new Object[] {about(6), random.nextBoolean() ? about(4) : 10 + about(6)};
            case "cable": case "as": return new Object[] {about(6), about(name.equals("as") ? 3 : 2)};
            case "carries": case "drop": return new Object[] {about(6), about(6), about(2)};
            case "away": case "tooMuch": case "tell": case "label": return new Object[] {about(6)};
            case "least": return new Object[] {about(1 << points), about(2)};
            case "order": return new Object[] {about(1 << points), about(2), about(points)};
            case "plan": case "best": return new Object[] {1 + about(3), fuse(), random.nextBoolean()};
            case "on": return new Object[] {1 + about(3), fuse(), random.nextBoolean(), about(points)};
            case "costs": return new Object[] {about(runs), 1 + about(3), fuse(), random.nextBoolean()};
            case "cores": return new Object[] {about(places), doors()};
            case "door": return new Object[] {about(places), doors(), about(4)};
            case "reading": return new Object[] {about(1 << points), random.nextInt(2) == 0 ? about(201) : sum()};
            case "back": return new Object[] {about(model.many(5) + 1)};
            case "fits": return new Object[] {about(3)};
            case "sheet": return new Object[] {about(4), about(3), about(101)};
            case "lose": return new Object[] {about(4)};
            case "put": return new Object[] {about(4), about(30), random.nextInt()};
            case "cell": return new Object[] {about(4), about(30), about(3)};
            case "copy": return new Object[] {about(4), about(10), about(4), about(10), about(20)};
            case "many": return new Object[] {about(6)};
            case "way": return new Object[] {about(3), about(99), about(4), about(3), about(10), about(7)};
            case "house": return new Object[] {about(4), about(3), about(10), about(30)};
            default: return new Object[0];
        }
    }

    private int fuse() {
        return random.nextBoolean() ? about(100) : 30 + random.nextInt(70);
    }

    private int doors() {
        int set = about(1 << model.many(0));
        return random.nextInt(3) == 0 ? set : set & random.nextInt();
    }

    private int sum() {
        int mine = random.nextInt(256);
        int sum = 0;
        for (int p = 0; p < model.many(3); p++) {
            sum += (mine >> p & 1) * Math.max(0, model.ofPoint(p, 1));
        }
        return sum;
    }

    private void go() {
        if (random.nextInt(8) != 0) {
            tellHouse(text());
            int most = random.nextInt(4) == 0 ? 8 : random.nextInt(7);
            for (int p = 0; p < most; p++) {
                ask("point", random.nextInt(model.many(0)), 1 + random.nextInt(20), random.nextInt(6));
            }
        }
        while (pair.hasCallsLeft(1)) {
            int what = random.nextInt(150);
            if (what == 0) {
                tellHouse(text());
            } else if (what <= 2) {
                tellHouse(spoiled(text()));
            } else if (what < 10) {
                layWay();
            } else {
                String name = ASKED[random.nextInt(ASKED.length)];
                ask(name, given(name));
                if (random.nextInt(6) == 0) {
                    ask("fault");
                }
            }
        }
    }

    public static void main(String[] args) {
        Due due = new Due("ModelTest");
        for (int seed = 1; seed <= RUNS; seed++) {
            new ModelTest(due, seed).go();
        }
        due.end();
    }
}
