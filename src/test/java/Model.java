import java.util.ArrayList;
import java.util.Arrays;
import java.util.List;
import java.util.regex.Matcher;
import java.util.regex.Pattern;

/**
 * The document once more, by another road: texts by patterns, runs by all paths, orders, plans and rows of doors by
 * trying all of them, sheets as arrays of their lanes. It is slow and plain on purpose: the class is compared with it.
 */
final class Model {
    private static final int UNKNOWN = -1, OUTSIDE = -2, STATE = -3, FULL = -4, NONE = -9;
    private static final long LOST = Long.MIN_VALUE;

    private record Run(int a, int b, int yards, int drilled) { }

    private record Point(int place, int load, int room) { }

    private record Way(int kind, int fuse, List<Integer> stops) { }

    private record Reading(int set, int v) { }

    private record Route(int yards, int drilled, List<Integer> runs) { }

    private final Object[] sheets = new Object[4];
    private int places;
    private int box;
    private final List<Run> runs = new ArrayList<>();
    private final List<Boolean> closed = new ArrayList<>();
    private final List<Point> points = new ArrayList<>();
    private final List<Way> ways = new ArrayList<>();
    private final List<Reading> readings = new ArrayList<>();
    private int trace;
    private int fault;

    // ---- texts

    private static Pattern textOf(int places) {
        String place = "[0-" + (places - 1) + "]";
        return Pattern.compile("h" + places + ";b(" + place + ")(?:;(" + place + ")(?!\\2)" + place
                + "[1-9](?:d[1-9])?){1,14}");
    }

    private static boolean isText(String s) {
        for (int n = 2; n <= 8; n++) {
            if (textOf(n).matcher(s).matches()) {
                return true;
            }
        }
        return false;
    }

    private static boolean canGoOn(String s) {
        if (s.isEmpty()) {
            return true;
        }
        for (int n = 2; n <= 8; n++) {
            Matcher m = textOf(n).matcher(s);
            if (m.matches() || m.hitEnd()) {
                return true;
            }
        }
        return false;
    }

    private static int firstFault(String s) {
        for (int at = 0; at < s.length(); at++) {
            if (!canGoOn(s.substring(0, at + 1))) {
                return at;
            }
        }
        return s.length();
    }

    private static int length(Object row) {
        return row instanceof byte[] b ? b.length : row instanceof short[] s ? s.length : ((int[]) row).length;
    }

    private static int value(Object row, int i) {
        return row instanceof byte[] b ? b[i] : row instanceof short[] s ? s[i] : ((int[]) row)[i];
    }

    private static int lane(Object row) {
        return row instanceof byte[] ? 0 : row instanceof short[] ? 1 : 2;
    }

    private int faulty(int what) {
        fault = what;
        return -10 - what;
    }

    private int cellsFault(int sheet, int lane, int i, int n) {
        Object row = sheets[sheet];
        if (row != null && lane(row) != lane) {
            return 2;
        }
        if (row == null) {
            return 1;
        }
        if (n < 0) {
            return 4;
        }
        return i < 0 || i > length(row) || (long) i + n > length(row) ? 3 : 0;
    }

    int house(int sheet, int lane, int i, int n) {
        fault = 0;
        if (sheet < 0 || sheet > 3) {
            return UNKNOWN;
        }
        if (lane < 0 || lane > 2) {
            return OUTSIDE;
        }
        int found = cellsFault(sheet, lane, i, n);
        if (found != 0) {
            return faulty(found);
        }
        StringBuilder s = new StringBuilder();
        for (int j = 0; j < n; j++) {
            int code = value(sheets[sheet], i + j);
            s.append(code > 0 && code < 128 ? (char) code : '?');
        }
        if (!isText(s.toString())) {
            return -100 - firstFault(s.toString());
        }
        String[] parts = s.toString().split(";");
        places = parts[0].charAt(1) - '0';
        box = parts[1].charAt(1) - '0';
        runs.clear();
        closed.clear();
        points.clear();
        ways.clear();
        readings.clear();
        for (int k = 2; k < parts.length; k++) {
            String p = parts[k];
            runs.add(new Run(p.charAt(0) - '0', p.charAt(1) - '0', p.charAt(2) - '0',
                    p.length() > 3 ? p.charAt(4) - '0' : 0));
            closed.add(false);
        }
        return runs.size();
    }

    // ---- runs

    private boolean isPlace(int c) {
        return c >= 0 && c < places;
    }

    private static int compareRows(List<Integer> a, List<Integer> b) {
        for (int i = 0; i < a.size() && i < b.size(); i++) {
            if (!a.get(i).equals(b.get(i))) {
                return a.get(i) - b.get(i);
            }
        }
        return a.size() - b.size();
    }

    private static boolean isBetter(Route a, Route b) {
        if (b == null || a.yards != b.yards) {
            return b == null || a.yards < b.yards;
        }
        return a.drilled != b.drilled ? a.drilled < b.drilled : compareRows(a.runs, b.runs) < 0;
    }

    private Route route(int a, int b) {
        return route(a, b, 1 << a, new Route(0, 0, new ArrayList<>()), null);
    }

    private Route route(int at, int b, int seen, Route sofar, Route best) {
        if (at == b) {
            return isBetter(sofar, best) ? sofar : best;
        }
        Route found = best;
        for (int k = 0; k < runs.size(); k++) {
            Run r = runs.get(k);
            if (!closed.get(k) && (r.a == at || r.b == at)) {
                int to = r.a == at ? r.b : r.a;
                if ((seen >> to & 1) == 0) {
                    List<Integer> row = new ArrayList<>(sofar.runs);
                    row.add(k);
                    found = route(to, b, seen | 1 << to,
                            new Route(sofar.yards + r.yards, sofar.drilled + r.drilled, row), found);
                }
            }
        }
        return found;
    }

    /** Yards between places, -1 where there is no run. */
    private int[][] map() {
        int[][] map = new int[places][places];
        for (int a = 0; a < places; a++) {
            for (int b = 0; b < places; b++) {
                Route r = route(a, b);
                map[a][b] = r == null ? -1 : r.yards;
            }
        }
        return map;
    }

    int ofRun(int k, int what) {
        if (k < 0 || k >= runs.size()) {
            return UNKNOWN;
        }
        Run r = runs.get(k);
        int[] all = {r.a, r.b, r.yards, r.drilled, closed.get(k) ? 1 : 0};
        return what < 0 || what > 4 ? OUTSIDE : all[what];
    }

    int shut(int k, boolean is) {
        if (k < 0 || k >= runs.size()) {
            return UNKNOWN;
        }
        return closed.set(k, is) == is ? 0 : 1;
    }

    int run(int a, int b, int what) {
        if (!isPlace(a) || !isPlace(b)) {
            return UNKNOWN;
        }
        if (what < 0 || what > 2) {
            return OUTSIDE;
        }
        Route r = route(a, b);
        return r == null ? NONE : what == 0 ? r.yards : what == 1 ? r.drilled : r.runs.size();
    }

    int along(int a, int b, int k) {
        if (!isPlace(a) || !isPlace(b)) {
            return UNKNOWN;
        }
        if (k < 0) {
            return OUTSIDE;
        }
        Route r = route(a, b);
        return r == null || k >= r.runs.size() ? NONE : r.runs.get(k);
    }

    int box(int c) {
        if (!isPlace(c)) {
            return UNKNOWN;
        }
        int was = box;
        box = c;
        return was;
    }

    // ---- points, ways

    private boolean isPoint(int p) {
        return p >= 0 && p < points.size();
    }

    int point(int c, int load, int room) {
        if (!isPlace(c)) {
            return UNKNOWN;
        }
        if (load < 1 || load > 20 || room < 0 || room > 5) {
            return OUTSIDE;
        }
        if (points.size() == 8) {
            return FULL;
        }
        points.add(new Point(c, load, room));
        return points.size() - 1;
    }

    private int wayOf(int p) {
        for (int x = 0; x < ways.size(); x++) {
            if (ways.get(x) != null && ways.get(x).stops.contains(p)) {
                return x;
            }
        }
        return NONE;
    }

    int ofPoint(int p, int what) {
        if (!isPoint(p)) {
            return UNKNOWN;
        }
        Point q = points.get(p);
        int[] all = {q.place, q.load, q.room, wayOf(p)};
        return what < 0 || what > 3 ? OUTSIDE : all[what];
    }

    int load(int p, int v) {
        if (!isPoint(p)) {
            return UNKNOWN;
        }
        if (v < 1 || v > 20) {
            return OUTSIDE;
        }
        Point was = points.get(p);
        points.set(p, new Point(was.place, v, was.room));
        return was.load;
    }

    int way(int kind, int fuse, int sheet, int lane, int i, int n) {
        fault = 0;
        if (sheet < 0 || sheet > 3) {
            return UNKNOWN;
        }
        if (kind < 0 || kind > 2 || fuse < 1 || fuse > 99 || lane < 0 || lane > 2) {
            return OUTSIDE;
        }
        int found = cellsFault(sheet, lane, i, n);
        if (found != 0) {
            return faulty(found);
        }
        if (n < 1 || n > 6) {
            return OUTSIDE;
        }
        List<Integer> stops = new ArrayList<>();
        for (int j = 0; j < n; j++) {
            stops.add(value(sheets[sheet], i + j));
        }
        if (!stops.stream().allMatch(this::isPoint)) {
            return UNKNOWN;
        }
        if (stops.stream().distinct().count() < n || stops.stream().anyMatch(p -> wayOf(p) != NONE)) {
            return STATE;
        }
        if (ways.size() == 6) {
            return FULL;
        }
        ways.add(new Way(kind, fuse, stops));
        return ways.size() - 1;
    }

    private Way wayAt(int x) {
        return x < 0 || x >= ways.size() ? null : ways.get(x);
    }

    int away(int x) {
        if (wayAt(x) == null) {
            return UNKNOWN;
        }
        return ways.set(x, null).stops.size();
    }

    int ofWay(int x, int what) {
        Way y = wayAt(x);
        if (y == null) {
            return UNKNOWN;
        }
        int n = y.stops.size();
        if (what >= 10 && what < 10 + n) {
            return y.stops.get(what - 10);
        }
        int[] all = {y.kind, y.fuse, n, y.kind == 0 ? n : n + 1};
        return what < 0 || what > 3 ? OUTSIDE : all[what];
    }

    /** The pieces of a way; null, if one is not there. */
    private List<Route> pieces(Way y) {
        List<Integer> at = new ArrayList<>();
        at.add(box);
        y.stops.forEach(p -> at.add(points.get(p).place));
        if (y.kind > 0) {
            at.add(box);
        }
        List<Route> all = new ArrayList<>();
        for (int j = 0; j + 1 < at.size(); j++) {
            Route r = route(at.get(j), at.get(j + 1));
            if (r == null) {
                return null;
            }
            all.add(r);
        }
        return all;
    }

    int cable(int x, int what) {
        Way y = wayAt(x);
        if (y == null) {
            return UNKNOWN;
        }
        if (what < 0 || what > 1) {
            return OUTSIDE;
        }
        List<Route> pieces = pieces(y);
        if (pieces == null) {
            return STATE;
        }
        return what == 1 ? pieces.stream().mapToInt(r -> r.drilled).sum()
                : pieces.stream().mapToInt(r -> r.yards).sum() * (y.kind == 2 ? 2 : 1);
    }

    /** What each piece carries, as {upper, lower}, by its own sum for each piece: not one by the other. */
    private long[][] carried(Way y, List<Route> pieces) {
        int n = y.stops.size();
        long all = pieces.stream().mapToInt(r -> r.yards).sum();
        long[][] found = new long[pieces.size()][2];
        for (int piece = 0; piece < pieces.size(); piece++) {
            long upper = 0;
            long lower = y.kind == 0 || all == 0 ? 1 : all;
            for (int j = 0; j < n; j++) {
                long load = points.get(y.stops.get(j)).load;
                long behind = pieces.subList(j + 1, pieces.size()).stream().mapToInt(r -> r.yards).sum();
                if (y.kind == 0 || all == 0) {
                    upper += j >= piece ? load : 0;
                } else {
                    upper += load * behind - (j < piece ? load * all : 0);
                }
            }
            found[piece] = new long[] {upper, lower};
        }
        return found;
    }

    private static long half(long upper, long lower, int which) {
        java.math.BigInteger g = java.math.BigInteger.valueOf(upper).gcd(java.math.BigInteger.valueOf(lower));
        return (which == 0 ? upper : lower) / g.longValue();
    }

    long carries(int x, int piece, int which) {
        Way y = wayAt(x);
        List<Route> pieces = y == null ? null : pieces(y);
        if (pieces == null || piece < 0 || piece >= pieces.size() || which < 0 || which > 1) {
            return LOST;
        }
        long[] share = carried(y, pieces)[piece];
        return half(share[0], share[1], which);
    }

    long drop(int x, int k, int which) {
        Way y = wayAt(x);
        List<Route> pieces = y == null ? null : pieces(y);
        if (pieces == null || k < 0 || k >= y.stops.size() || which < 0 || which > 1) {
            return LOST;
        }
        long[][] carried = carried(y, pieces);
        long upper = 0;
        for (int j = 0; j <= k; j++) {
            upper += pieces.get(j).yards * carried[j][0];
        }
        return half(upper, carried[0][1] * (y.kind == 2 ? 2 : 1), which);
    }

    int tooMuch(int x) {
        Way y = wayAt(x);
        if (y == null) {
            return UNKNOWN;
        }
        List<Route> pieces = pieces(y);
        if (pieces == null) {
            return STATE;
        }
        long[][] carried = carried(y, pieces);
        for (int j = 0; j < carried.length; j++) {
            if (carried[j][0] > y.fuse * carried[j][1] || -carried[j][0] > y.fuse * carried[j][1]) {
                return j;
            }
        }
        return NONE;
    }

    // ---- least cable, plans

    private List<Integer> bestOrder;
    private int bestYards;

    private void allOrders(int[][] map, int kind, int left, List<Integer> row, int yards) {
        int at = row.isEmpty() ? box : points.get(row.get(row.size() - 1)).place;
        if (left == 0) {
            int home = kind == 0 ? 0 : map[at][box];
            if (home >= 0 && (bestOrder == null || yards + home < bestYards)) {
                bestOrder = new ArrayList<>(row);
                bestYards = yards + home;
            }
            return;
        }
        for (int p = 0; p < points.size(); p++) {
            int gap = map[at][points.get(p).place];
            if ((left >> p & 1) != 0 && gap >= 0) {
                row.add(p);
                allOrders(map, kind, left & ~(1 << p), row, yards + gap);
                row.remove(row.size() - 1);
            }
        }
    }

    private boolean isSet(int set) {
        return set >= 0 && set < 1 << points.size();
    }

    int least(int set, int kind) {
        if (!isSet(set) || set == 0 || kind < 0 || kind > 1) {
            return OUTSIDE;
        }
        bestOrder = null;
        allOrders(map(), kind, set, new ArrayList<>(), 0);
        return bestOrder == null ? NONE : bestYards;
    }

    int order(int set, int kind, int k) {
        int yards = least(set, kind);
        if (yards == OUTSIDE) {
            return OUTSIDE;
        }
        if (k < 0 || k > 7) {
            return UNKNOWN;
        }
        return yards == NONE || k >= bestOrder.size() ? NONE : bestOrder.get(k);
    }

    private void allChains(int[][] map, int at, int seen, int yards, int[] least) {
        if (least[seen] < 0 || yards < least[seen]) {
            least[seen] = yards;
        }
        for (int p = 0; p < points.size(); p++) {
            int to = points.get(p).place;
            if ((seen >> p & 1) == 0 && map[at][to] >= 0) {
                allChains(map, to, seen | 1 << p, yards + map[at][to], least);
            }
        }
    }

    private boolean isLit(int[] row) {
        for (int p = 0; p < row.length; p++) {
            int alike = 0;
            int together = 0;
            for (int q = 0; q < row.length; q++) {
                if (points.get(p).room == points.get(q).room) {
                    alike++;
                    together += row[p] == row[q] ? 1 : 0;
                }
            }
            if (alike >= 2 && alike == together) {
                return false;
            }
        }
        return true;
    }

    private int[] bestRow;

    /** Its cable, or NONE; rows are counted up, so the first of the least is the first row. */
    private int planned(int[][] map, int from, int w, int f, boolean dark) {
        int n = points.size();
        int[] least = new int[1 << n];
        Arrays.fill(least, -1);
        allChains(map, from, 0, 0, least);
        int found = NONE;
        int rows = (int) Math.pow(w, n);
        for (int number = 0; number < rows; number++) {
            int[] row = new int[n];
            int[] sets = new int[w];
            int[] loads = new int[w];
            for (int p = n - 1, rest = number; p >= 0; p--, rest /= w) {
                row[p] = rest % w;
                sets[row[p]] |= 1 << p;
                loads[row[p]] += points.get(p).load;
            }
            boolean good = !dark || isLit(row);
            int sum = 0;
            for (int x = 0; x < w; x++) {
                good &= loads[x] <= f && least[sets[x]] >= 0;
                sum += least[sets[x]];
            }
            if (good && (found == NONE || sum < found)) {
                found = sum;
                bestRow = row;
            }
        }
        return found;
    }

    private int planRefusal(int w, int f) {
        if (w < 1 || w > 3 || f < 1 || f > 99) {
            return OUTSIDE;
        }
        return points.isEmpty() ? STATE : 0;
    }

    int plan(int w, int f, boolean dark) {
        int refusal = planRefusal(w, f);
        return refusal != 0 ? refusal : planned(map(), box, w, f, dark);
    }

    int on(int w, int f, boolean dark, int p) {
        if (!isPoint(p)) {
            return UNKNOWN;
        }
        int refusal = planRefusal(w, f);
        if (refusal != 0) {
            return refusal;
        }
        return planned(map(), box, w, f, dark) == NONE ? NONE : bestRow[p];
    }

    int best(int w, int f, boolean dark) {
        int refusal = planRefusal(w, f);
        if (refusal != 0) {
            return refusal;
        }
        int[][] map = map();
        int found = NONE;
        int yards = 0;
        for (int c = 0; c < places; c++) {
            int there = planned(map, c, w, f, dark);
            if (there != NONE && (found == NONE || there < yards)) {
                found = c;
                yards = there;
            }
        }
        return found;
    }

    int costs(int k, int w, int f, boolean dark) {
        if (k < 0 || k >= runs.size()) {
            return UNKNOWN;
        }
        int refusal = planRefusal(w, f);
        if (refusal != 0) {
            return refusal;
        }
        int now = planned(map(), box, w, f, dark);
        boolean was = closed.set(k, true);
        int then = planned(map(), box, w, f, dark);
        closed.set(k, was);
        return now == NONE || then == NONE ? NONE : then - now;
    }

    // ---- doors

    private List<Integer> bestDoors;
    private int bestCores;

    private void allDoors(int[][] map, int lamp, int left, List<Integer> row) {
        if (left == 0) {
            int last = row.get(row.size() - 1);
            boolean there = map[box][row.get(0)] >= 0 && map[last][lamp] >= 0 && map[box][lamp] >= 0;
            int sum = map[box][row.get(0)] + map[last][lamp] + map[box][lamp];
            for (int j = 0; j + 1 < row.size(); j++) {
                there &= map[row.get(j)][row.get(j + 1)] >= 0;
                sum += 2 * map[row.get(j)][row.get(j + 1)];
            }
            if (there && (bestDoors == null || sum < bestCores)) {
                bestDoors = new ArrayList<>(row);
                bestCores = sum;
            }
        }
        for (int c = 0; c < places; c++) {
            if ((left >> c & 1) != 0) {
                row.add(c);
                allDoors(map, lamp, left & ~(1 << c), row);
                row.remove(row.size() - 1);
            }
        }
    }

    int cores(int c, int set) {
        if (!isPlace(c)) {
            return UNKNOWN;
        }
        if (set <= 0 || set >= 1 << places || Integer.bitCount(set) > 4) {
            return OUTSIDE;
        }
        bestDoors = null;
        allDoors(map(), c, set, new ArrayList<>());
        return bestDoors == null ? NONE : bestCores;
    }

    int door(int c, int set, int k) {
        int found = cores(c, set);
        if (found == UNKNOWN || found == OUTSIDE) {
            return found;
        }
        if (k < 0 || k > 3) {
            return UNKNOWN;
        }
        return found == NONE || k >= bestDoors.size() ? NONE : bestDoors.get(k);
    }

    // ---- meters

    int reading(int set, int v) {
        if (!isSet(set) || v < 0 || v > 200) {
            return OUTSIDE;
        }
        if (readings.size() == 12) {
            return FULL;
        }
        readings.add(new Reading(set, v));
        return readings.size() - 1;
    }

    int back(int k) {
        if (k < 0 || k > readings.size()) {
            return OUTSIDE;
        }
        for (int j = 0; j < k; j++) {
            readings.remove(readings.size() - 1);
        }
        return readings.size();
    }

    private List<Integer> fitting() {
        List<Integer> found = new ArrayList<>();
        for (int mine = 0; mine < 1 << points.size(); mine++) {
            boolean fits = true;
            for (Reading r : readings) {
                int sum = 0;
                for (int p = 0; p < points.size(); p++) {
                    sum += ((mine & r.set) >> p & 1) != 0 ? points.get(p).load : 0;
                }
                fits &= sum == r.v;
            }
            if (fits) {
                found.add(mine);
            }
        }
        return found;
    }

    int fits(int what) {
        if (what < 0 || what > 2) {
            return OUTSIDE;
        }
        List<Integer> found = fitting();
        int all = (1 << points.size()) - 1;
        int sure = found.isEmpty() ? 0 : all;
        int ever = found.isEmpty() ? all : 0;
        for (int mine : found) {
            sure &= mine;
            ever |= mine;
        }
        return what == 0 ? found.size() : what == 1 ? sure : all & ~ever;
    }

    int next() {
        List<Integer> found = fitting();
        if (found.size() <= 1) {
            return NONE;
        }
        int best = NONE;
        long part = 0;
        for (int p = 0; p < points.size(); p++) {
            int bit = p;
            long with = found.stream().filter(mine -> (mine >> bit & 1) != 0).count();
            long greater = Math.max(with, found.size() - with);
            if (best == NONE || greater < part) {
                best = p;
                part = greater;
            }
        }
        return best;
    }

    // ---- sheets, parts

    int sheet(int k, int lane, int n) {
        fault = 0;
        if (k < 0 || k > 3) {
            return UNKNOWN;
        }
        if (lane < 0 || lane > 2 || n > 100) {
            return OUTSIDE;
        }
        if (n < 0) {
            return faulty(4);
        }
        sheets[k] = lane == 0 ? new byte[n] : lane == 1 ? new short[n] : new int[n];
        return 1;
    }

    int lose(int k) {
        if (k < 0 || k > 3) {
            return UNKNOWN;
        }
        int had = sheets[k] == null ? 0 : 1;
        sheets[k] = null;
        return had;
    }

    int put(int k, int i, int v) {
        fault = 0;
        if (k < 0 || k > 3) {
            return UNKNOWN;
        }
        if (sheets[k] == null) {
            return faulty(1);
        }
        if (i < 0 || i >= length(sheets[k])) {
            return faulty(3);
        }
        if (sheets[k] instanceof byte[] b) {
            b[i] = (byte) v;
        } else if (sheets[k] instanceof short[] s) {
            s[i] = (short) v;
        } else {
            ((int[]) sheets[k])[i] = v;
        }
        return 1;
    }

    long cell(int k, int i, int lane) {
        fault = 0;
        if (k < 0 || k > 3 || lane < 0 || lane > 2) {
            return LOST;
        }
        Object row = sheets[k];
        fault = row == null ? 1 : lane(row) != lane ? 2 : i < 0 || i >= length(row) ? 3 : 0;
        return fault != 0 ? LOST : value(row, i);
    }

    int copy(int k, int i, int other, int j, int n) {
        fault = 0;
        if (k < 0 || k > 3 || other < 0 || other > 3) {
            return UNKNOWN;
        }
        if (sheets[k] == null || sheets[other] == null) {
            return faulty(1);
        }
        if (lane(sheets[k]) != lane(sheets[other])) {
            return faulty(2);
        }
        if (i < 0 || j < 0 || n < 0 || (long) i + n > length(sheets[k]) || (long) j + n > length(sheets[other])) {
            return faulty(3);
        }
        int[] were = new int[n];
        for (int t = 0; t < n; t++) {
            were[t] = value(sheets[k], i + t);
        }
        for (int t = 0; t < n; t++) {
            put(other, j + t, were[t]);
        }
        return n;
    }

    private void leave(int... bodies) {
        for (int body : bodies) {
            trace = 31 * trace + body;
        }
    }

    int tell(int x) {
        Way y = wayAt(x);
        if (y == null) {
            return UNKNOWN;
        }
        int n = y.stops.size();
        switch (y.kind) {
            case 0:
                leave(1);
                return n;
            case 1:
                leave(2, 1);
                return n + 100;
            default:
                leave(3, 2, 1, 1);
                return n + 100 + n;
        }
    }

    int label(int x) {
        Way y = wayAt(x);
        if (y == null) {
            return UNKNOWN;
        }
        leave(y.kind == 2 ? 5 : 4);
        return y.kind == 2 ? 70 : x;
    }

    int as(int x, int kind) {
        fault = 0;
        Way y = wayAt(x);
        if (y == null) {
            return UNKNOWN;
        }
        if (kind < 0 || kind > 2) {
            return OUTSIDE;
        }
        return kind > y.kind ? faulty(2) : 1;
    }

    int trace() {
        return trace;
    }

    int fault() {
        return fault;
    }

    int many(int what) {
        int[] all = {places, runs.size(), (int) closed.stream().filter(is -> is).count(), points.size(),
            (int) ways.stream().filter(y -> y != null).count(), readings.size()};
        return what < 0 || what > 5 ? OUTSIDE : all[what];
    }
}
