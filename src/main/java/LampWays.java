/** Lights on few circuits: what each call promises stands in the document (DOC.md), by number. */
public final class LampWays {
    public static final int UNKNOWN = -1, OUTSIDE = -2, STATE = -3, FULL = -4, NONE = -9;
    public static final long LOST = Long.MIN_VALUE;

    private static final int NO_FAULT = 0, NULL = 1, CAST = 2, INDEX = 3, SIZE = 4;
    private static final int FAULT_BASE = -10, TEXT_BASE = -100;

    private static final int MOST_SHEETS = 4, MOST_LANES = 3, MOST_CELLS = 100;
    private static final int LEAST_PLACES = 2, MOST_PLACES = 8, MOST_RUNS = 14;
    private static final int MOST_POINTS = 8, MOST_SETS = 256, MOST_LOAD = 20, MOST_ROOMS = 6;
    private static final int MOST_WAYS = 6, MOST_STOPS = 6, MOST_KINDS = 3, MOST_FUSE = 99;
    private static final int MOST_PLANNED = 3, MOST_DOORS = 4;
    private static final int MOST_READINGS = 12, MOST_SHOWN = 200;

    /** Above every sum of yards that can be, and small enough that sums of some of it do not wrap. */
    private static final int FAR = 1000000;

    private final Sheets sheets;
    private final Text text;
    private final House plot;
    private final Points points;
    private final Chain[] ways;
    private int waysEver;
    private final Cables cables;
    private final Plans plans;
    private final Doors doors;
    private final Meter meter;
    private final int[] tracing;
    private int latestFault;

    public LampWays() {
        sheets = new Sheets();
        text = new Text();
        plot = new House();
        points = new Points();
        ways = new Chain[MOST_WAYS];
        cables = new Cables();
        plans = new Plans();
        doors = new Doors();
        meter = new Meter();
        tracing = new int[1];
    }

    // ---- 1 the house

    public int house(int sheet, int lane, int i, int n) {
        latestFault = NO_FAULT;
        if (!Sheets.isSheet(sheet)) {
            return UNKNOWN;
        }
        if (!Sheets.isLane(lane)) {
            return OUTSIDE;
        }
        int found = sheets.faultOfCells(sheet, lane, i, n);
        if (found != NO_FAULT) {
            return faulty(found);
        }
        if (!text.isRead(sheets.cells, Sheets.spot(sheet, i), n)) {
            return TEXT_BASE - text.firstFault();
        }
        plot.take(text);
        points.count = 0;
        meter.count = 0;
        forgetWays();
        return plot.runs;
    }

    public int ofRun(int k, int what) {
        if (!plot.isRun(k)) {
            return UNKNOWN;
        }
        switch (what) {
            case 0: return plot.from[k];
            case 1: return plot.to[k];
            case 2: return plot.yards[k];
            case 3: return plot.drilled[k];
            case 4: return plot.closed[k] ? 1 : 0;
            default: return OUTSIDE;
        }
    }

    public int shut(int k, boolean is) {
        if (!plot.isRun(k)) {
            return UNKNOWN;
        }
        if (plot.closed[k] == is) {
            return 0;
        }
        plot.close(k, is);
        return 1;
    }

    public int run(int a, int b, int what) {
        if (!plot.isPlace(a) || !plot.isPlace(b)) {
            return UNKNOWN;
        }
        if (what < 0 || what > 2) {
            return OUTSIDE;
        }
        if (!plot.isJoined(a, b)) {
            return NONE;
        }
        if (what == 0) {
            return plot.yardsFrom(a, b);
        }
        return what == 1 ? plot.drilledFrom(a, b) : plot.stepsFrom(a, b);
    }

    public int along(int a, int b, int k) {
        if (!plot.isPlace(a) || !plot.isPlace(b)) {
            return UNKNOWN;
        }
        return k < 0 ? OUTSIDE : plot.stepOf(a, b, k);
    }

    public int box(int c) {
        if (!plot.isPlace(c)) {
            return UNKNOWN;
        }
        int was = plot.boxPlace;
        plot.boxPlace = c;
        return was;
    }

    // ---- 2 points, ways

    public int point(int c, int load, int room) {
        if (!plot.isPlace(c)) {
            return UNKNOWN;
        }
        if (!Points.isLoad(load) || room < 0 || room >= MOST_ROOMS) {
            return OUTSIDE;
        }
        return points.count >= MOST_POINTS ? FULL : points.add(c, load, room);
    }

    public int ofPoint(int p, int what) {
        if (!points.isPoint(p)) {
            return UNKNOWN;
        }
        switch (what) {
            case 0: return points.places[p];
            case 1: return points.loads[p];
            case 2: return points.rooms[p];
            case 3: return points.owners[p];
            default: return OUTSIDE;
        }
    }

    public int load(int p, int v) {
        if (!points.isPoint(p)) {
            return UNKNOWN;
        }
        if (!Points.isLoad(v)) {
            return OUTSIDE;
        }
        int was = points.loads[p];
        points.loads[p] = v;
        return was;
    }

    public int way(int kind, int fuse, int sheet, int lane, int i, int n) {
        latestFault = NO_FAULT;
        if (!Sheets.isSheet(sheet)) {
            return UNKNOWN;
        }
        if (!isKind(kind) || fuse < 1 || fuse > MOST_FUSE || !Sheets.isLane(lane)) {
            return OUTSIDE;
        }
        int found = sheets.faultOfCells(sheet, lane, i, n);
        if (found != NO_FAULT) {
            return faulty(found);
        }
        if (n < 1 || n > MOST_STOPS) {
            return OUTSIDE;
        }
        int refused = points.refusalOf(sheets.cells, Sheets.spot(sheet, i), n);
        if (refused != 0) {
            return refused;
        }
        return waysEver >= MOST_WAYS ? FULL : layWay(kind, fuse, Sheets.spot(sheet, i), n);
    }

    public int away(int x) {
        Chain gone = wayOf(x);
        if (gone == null) {
            return UNKNOWN;
        }
        points.own(gone.stops, NONE);
        ways[x] = null;
        return gone.stops.length;
    }

    public int ofWay(int x, int what) {
        Chain asked = wayOf(x);
        if (asked == null) {
            return UNKNOWN;
        }
        if (what >= 10 && what - 10 < asked.stops.length) {
            return asked.stops[what - 10];
        }
        switch (what) {
            case 0: return asked.kind();
            case 1: return asked.fuse;
            case 2: return asked.stops.length;
            case 3: return asked.pieces();
            default: return OUTSIDE;
        }
    }

    public int cable(int x, int what) {
        Chain asked = wayOf(x);
        if (asked == null) {
            return UNKNOWN;
        }
        if (what < 0 || what > 1) {
            return OUTSIDE;
        }
        if (!asked.canBeLaid(plot, points)) {
            return STATE;
        }
        return what == 0 ? asked.strands() * asked.allYards(plot, points) : asked.allDrilled(plot, points);
    }

    public long carries(int x, int piece, int which) {
        Chain asked = wayOf(x);
        if (asked == null || piece < 0 || piece >= asked.pieces() || !isHalfOfShare(which)) {
            return LOST;
        }
        if (!asked.canBeLaid(plot, points)) {
            return LOST;
        }
        return inLeastTerms(asked.carriedUpper(piece, plot, points), asked.carriedLower(plot, points), which);
    }

    public long drop(int x, int k, int which) {
        Chain asked = wayOf(x);
        if (asked == null || k < 0 || k >= asked.stops.length || !isHalfOfShare(which)) {
            return LOST;
        }
        if (!asked.canBeLaid(plot, points)) {
            return LOST;
        }
        long lower = asked.carriedLower(plot, points) * asked.strands();
        return inLeastTerms(asked.droppedUpper(k, plot, points), lower, which);
    }

    public int tooMuch(int x) {
        Chain asked = wayOf(x);
        if (asked == null) {
            return UNKNOWN;
        }
        return asked.canBeLaid(plot, points) ? asked.firstOverFuse(plot, points) : STATE;
    }

    // ---- 3 least cable, plans

    public int least(int set, int kind) {
        if (!isSetOfPoints(set) || set == 0 || kind < 0 || kind > 1) {
            return OUTSIDE;
        }
        reckonOrders(set, kind);
        return yardsOrNone(cables.leastFromBox(set));
    }

    public int order(int set, int kind, int k) {
        if (!isSetOfPoints(set) || set == 0 || kind < 0 || kind > 1) {
            return OUTSIDE;
        }
        if (k < 0 || k >= MOST_POINTS) {
            return UNKNOWN;
        }
        reckonOrders(set, kind);
        return cables.leastFromBox(set) >= FAR ? NONE : cables.stopOfOrder(set, k);
    }

    public int plan(int w, int f, boolean dark) {
        if (!isPlanAsked(w, f)) {
            return OUTSIDE;
        }
        if (points.count == 0) {
            return STATE;
        }
        return yardsOrNone(plannedYards(w, f, dark));
    }

    public int on(int w, int f, boolean dark, int p) {
        if (!points.isPoint(p)) {
            return UNKNOWN;
        }
        if (!isPlanAsked(w, f)) {
            return OUTSIDE;
        }
        return plannedYards(w, f, dark) >= FAR ? NONE : plans.firstRow[p];
    }

    public int best(int w, int f, boolean dark) {
        if (!isPlanAsked(w, f)) {
            return OUTSIDE;
        }
        if (points.count == 0) {
            return STATE;
        }
        reckonOrders(points.all(), 0);
        int found = NONE;
        int leastYards = FAR;
        for (int c = 0; c < plot.places; c++) {
            int yards = plannedYardsFrom(c, w, f, dark);
            if (yards < leastYards) {
                leastYards = yards;
                found = c;
            }
        }
        return found;
    }

    public int costs(int k, int w, int f, boolean dark) {
        if (!plot.isRun(k)) {
            return UNKNOWN;
        }
        if (!isPlanAsked(w, f)) {
            return OUTSIDE;
        }
        if (points.count == 0) {
            return STATE;
        }
        int now = plannedYards(w, f, dark);
        boolean was = plot.closed[k];
        plot.close(k, true);
        int then = plannedYards(w, f, dark);
        plot.close(k, was);
        return now >= FAR || then >= FAR ? NONE : then - now;
    }

    // ---- 4 doors

    public int cores(int c, int set) {
        if (!plot.isPlace(c)) {
            return UNKNOWN;
        }
        return isSetOfDoors(set) ? yardsOrNone(doors.fewestCores(plot, c, set)) : OUTSIDE;
    }

    public int door(int c, int set, int k) {
        if (!plot.isPlace(c)) {
            return UNKNOWN;
        }
        if (!isSetOfDoors(set)) {
            return OUTSIDE;
        }
        if (k < 0 || k >= MOST_DOORS) {
            return UNKNOWN;
        }
        if (doors.fewestCores(plot, c, set) >= FAR || k >= Integer.bitCount(set)) {
            return NONE;
        }
        return doors.firstRow[k];
    }

    // ---- 5 meters

    public int reading(int set, int v) {
        if (!isSetOfPoints(set) || v < 0 || v > MOST_SHOWN) {
            return OUTSIDE;
        }
        return meter.count >= MOST_READINGS ? FULL : meter.add(set, v);
    }

    public int back(int k) {
        if (k < 0 || k > meter.count) {
            return OUTSIDE;
        }
        meter.count -= k;
        return meter.count;
    }

    public int fits(int what) {
        if (what < 0 || what > 2) {
            return OUTSIDE;
        }
        meter.weigh(points);
        if (what == 0) {
            return meter.fitting;
        }
        return what == 1 ? meter.ofAll(points.count) : meter.ofNone(points.count);
    }

    public int next() {
        meter.weigh(points);
        return meter.fitting <= 1 ? NONE : meter.mostEven(points.count);
    }

    // ---- 6 sheets, parts

    public int sheet(int k, int lane, int n) {
        latestFault = NO_FAULT;
        if (!Sheets.isSheet(k)) {
            return UNKNOWN;
        }
        if (!Sheets.isLane(lane) || n > MOST_CELLS) {
            return OUTSIDE;
        }
        if (n < 0) {
            return faulty(SIZE);
        }
        sheets.renew(k, lane, n);
        return 1;
    }

    public int lose(int k) {
        if (!Sheets.isSheet(k)) {
            return UNKNOWN;
        }
        if (sheets.hasNothing(k)) {
            return 0;
        }
        sheets.lanes[k] = Sheets.NOTHING;
        return 1;
    }

    public int put(int k, int i, int v) {
        latestFault = NO_FAULT;
        if (!Sheets.isSheet(k)) {
            return UNKNOWN;
        }
        if (sheets.hasNothing(k)) {
            return faulty(NULL);
        }
        if (!sheets.isCell(k, i)) {
            return faulty(INDEX);
        }
        sheets.cells[Sheets.spot(k, i)] = Sheets.cut(sheets.lanes[k], v);
        return 1;
    }

    public long cell(int k, int i, int lane) {
        latestFault = NO_FAULT;
        if (!Sheets.isSheet(k) || !Sheets.isLane(lane)) {
            return LOST;
        }
        int found = sheets.faultOfRow(k, lane);
        if (found == NO_FAULT && !sheets.isCell(k, i)) {
            found = INDEX;
        }
        if (found != NO_FAULT) {
            latestFault = found;
            return LOST;
        }
        return sheets.cells[Sheets.spot(k, i)];
    }

    public int copy(int k, int i, int other, int j, int n) {
        latestFault = NO_FAULT;
        if (!Sheets.isSheet(k) || !Sheets.isSheet(other)) {
            return UNKNOWN;
        }
        if (sheets.hasNothing(k) || sheets.hasNothing(other)) {
            return faulty(NULL);
        }
        if (sheets.lanes[k] != sheets.lanes[other]) {
            return faulty(CAST);
        }
        if (n < 0 || !sheets.areCells(k, i, n) || !sheets.areCells(other, j, n)) {
            return faulty(INDEX);
        }
        System.arraycopy(sheets.cells, Sheets.spot(k, i), sheets.cells, Sheets.spot(other, j), n);
        return n;
    }

    public int tell(int x) {
        Chain asked = wayOf(x);
        return asked == null ? UNKNOWN : asked.telling(tracing);
    }

    public int label(int x) {
        Chain asked = wayOf(x);
        return asked == null ? UNKNOWN : asked.labelled(tracing);
    }

    public int as(int x, int kind) {
        latestFault = NO_FAULT;
        Chain asked = wayOf(x);
        if (asked == null) {
            return UNKNOWN;
        }
        if (!isKind(kind)) {
            return OUTSIDE;
        }
        if (kind == 1 && !(asked instanceof Ring) || kind == 2 && !(asked instanceof Strong)) {
            return faulty(CAST);
        }
        return 1;
    }

    public int trace() {
        return tracing[0];
    }

    public int fault() {
        return latestFault;
    }

    public int many(int what) {
        switch (what) {
            case 0: return plot.places;
            case 1: return plot.runs;
            case 2: return plot.howManyClosed();
            case 3: return points.count;
            case 4: return howManyWays();
            case 5: return meter.count;
            default: return OUTSIDE;
        }
    }

    // ---- what several calls need

    private int faulty(int found) {
        latestFault = found;
        return FAULT_BASE - found;
    }

    private static boolean isKind(int kind) {
        return kind >= 0 && kind < MOST_KINDS;
    }

    private static boolean isHalfOfShare(int which) {
        return which == 0 || which == 1;
    }

    private static boolean isPlanAsked(int w, int f) {
        return w >= 1 && w <= MOST_PLANNED && f >= 1 && f <= MOST_FUSE;
    }

    private static int yardsOrNone(int yards) {
        return yards >= FAR ? NONE : yards;
    }

    private boolean isSetOfPoints(int set) {
        return (set & ~points.all()) == 0;
    }

    private boolean isSetOfDoors(int set) {
        int all = (1 << plot.places) - 1;
        return (set & ~all) == 0 && set != 0 && Integer.bitCount(set) <= MOST_DOORS;
    }

    private Chain wayOf(int x) {
        return x >= 0 && x < waysEver && x < MOST_WAYS ? ways[x] : null;
    }

    private int howManyWays() {
        int there = 0;
        for (int x = 0; x < MOST_WAYS; x++) {
            there += ways[x] == null ? 0 : 1;
        }
        return there;
    }

    private void forgetWays() {
        for (int x = 0; x < MOST_WAYS; x++) {
            ways[x] = null;
        }
        waysEver = 0;
    }

    private int layWay(int kind, int fuse, int spot, int n) {
        int[] stops = new int[n];
        System.arraycopy(sheets.cells, spot, stops, 0, n);
        int number = waysEver;
        if (kind == 0) {
            ways[number] = new Chain(number, fuse, stops);
        } else if (kind == 1) {
            ways[number] = new Ring(number, fuse, stops);
        } else {
            ways[number] = new Strong(number, fuse, stops);
        }
        points.own(stops, number);
        waysEver++;
        return number;
    }

    private void reckonOrders(int set, int kind) {
        cables.measure(plot, points);
        cables.startFrom(plot, points, plot.boxPlace);
        cables.reckonRests(set, kind == 1);
    }

    private int plannedYards(int w, int f, boolean dark) {
        reckonOrders(points.all(), 0);
        return plannedYardsFrom(plot.boxPlace, w, f, dark);
    }

    /** The rests of chains are the same wherever the box is, so they are reckoned by the caller, once. */
    private int plannedYardsFrom(int c, int w, int f, boolean dark) {
        cables.startFrom(plot, points, c);
        cables.reckonSets(points.all(), plans.yardsOfSets);
        return plans.leastYards(points, w, f, dark);
    }

    private static long inLeastTerms(long upper, long lower, int which) {
        long common = commonDivisor(Math.abs(upper), lower);
        if (common == 0) {
            return LOST;
        }
        return which == 0 ? upper / common : lower / common;
    }

    private static long commonDivisor(long a, long b) {
        long big = a;
        long small = b;
        for (int step = 0; step < 100 && small != 0; step++) {
            long left = big % small;
            big = small;
            small = left;
        }
        return big;
    }

    /** All sheets' cells stand in one row that is made once, so that new sheets make no new arrays. */
    private static final class Sheets {
        static final int NOTHING = -1;
        final int[] lanes;
        final int[] lengths;
        final int[] cells;

        Sheets() {
            lanes = new int[MOST_SHEETS];
            lengths = new int[MOST_SHEETS];
            cells = new int[MOST_SHEETS * MOST_CELLS];
            for (int k = 0; k < MOST_SHEETS; k++) {
                lanes[k] = NOTHING;
            }
        }

        static boolean isSheet(int k) {
            return k >= 0 && k < MOST_SHEETS;
        }

        static boolean isLane(int lane) {
            return lane >= 0 && lane < MOST_LANES;
        }

        static int spot(int k, int i) {
            return k * MOST_CELLS + i;
        }

        static int cut(int lane, int v) {
            if (lane == 0) {
                return (byte) v;
            }
            return lane == 1 ? (short) v : v;
        }

        boolean hasNothing(int k) {
            return lanes[k] == NOTHING;
        }

        boolean isCell(int k, int i) {
            return i >= 0 && i < lengths[k];
        }

        /** With n of 0, too, i has to be 0 .. how many there are. */
        boolean areCells(int k, int i, int n) {
            return i >= 0 && i <= lengths[k] && n <= lengths[k] - i;
        }

        int faultOfRow(int k, int lane) {
            if (hasNothing(k)) {
                return NULL;
            }
            return lanes[k] == lane ? NO_FAULT : CAST;
        }

        int faultOfCells(int k, int lane, int i, int n) {
            int found = faultOfRow(k, lane);
            if (found != NO_FAULT) {
                return found;
            }
            if (n < 0) {
                return SIZE;
            }
            return areCells(k, i, n) ? NO_FAULT : INDEX;
        }

        void renew(int k, int lane, int n) {
            lanes[k] = lane;
            lengths[k] = n;
            for (int i = 0; i < n; i++) {
                cells[spot(k, i)] = 0;
            }
        }
    }

    /** A text is read here first, so that one with a fault leaves the house as it is. */
    private static final class Text {
        static final int H = 104, B = 98, D = 100, END_SIGN = 59, ZERO = 48, BAD = -1;
        final int[] from;
        final int[] to;
        final int[] yards;
        final int[] drilled;
        int places;
        int boxPlace;
        int runs;
        private int[] codes;
        private int begin;
        private int end;
        private int at;

        Text() {
            from = new int[MOST_RUNS];
            to = new int[MOST_RUNS];
            yards = new int[MOST_RUNS];
            drilled = new int[MOST_RUNS];
        }

        boolean isRead(int[] cells, int spot, int n) {
            codes = cells;
            begin = spot;
            end = spot + n;
            at = spot;
            runs = 0;
            return isHeadRead() && areRunsRead();
        }

        /** What is read stops at the first code that does not go on, or behind the last one. */
        int firstFault() {
            return at - begin;
        }

        private boolean isHeadRead() {
            if (!isSign(H)) {
                return false;
            }
            places = digit(LEAST_PLACES, MOST_PLACES);
            if (places == BAD || !isSign(END_SIGN) || !isSign(B)) {
                return false;
            }
            boxPlace = digit(0, places - 1);
            return boxPlace != BAD;
        }

        private boolean areRunsRead() {
            for (int k = 0; k < MOST_RUNS; k++) {
                if (!isSign(END_SIGN) || !isRunRead(k)) {
                    return false;
                }
                runs = k + 1;
                if (at >= end) {
                    return true;
                }
            }
            return false;
        }

        private boolean isRunRead(int k) {
            from[k] = digit(0, places - 1);
            if (from[k] == BAD || hasCode(ZERO + from[k])) {
                return false;
            }
            to[k] = digit(0, places - 1);
            if (to[k] == BAD) {
                return false;
            }
            yards[k] = digit(1, 9);
            if (yards[k] == BAD) {
                return false;
            }
            drilled[k] = 0;
            if (isSign(D)) {
                drilled[k] = digit(1, 9);
            }
            return drilled[k] != BAD;
        }

        private boolean hasCode(int code) {
            return codes != null && at >= 0 && at < end && at < codes.length && codes[at] == code;
        }

        private boolean isSign(int code) {
            if (!hasCode(code)) {
                return false;
            }
            at++;
            return true;
        }

        private int digit(int low, int high) {
            for (int d = low; d <= high; d++) {
                if (isSign(ZERO + d)) {
                    return d;
                }
            }
            return BAD;
        }
    }

    private static final class House {
        /** Yards come first and drilled ones decide among equals: one number bears both, as drilled stay below this. */
        static final int YARD = 1000;
        int places;
        int boxPlace;
        int runs;
        final int[] from;
        final int[] to;
        final int[] yards;
        final int[] drilled;
        final boolean[] closed;
        private final int[] apart;

        House() {
            from = new int[MOST_RUNS];
            to = new int[MOST_RUNS];
            yards = new int[MOST_RUNS];
            drilled = new int[MOST_RUNS];
            closed = new boolean[MOST_RUNS];
            apart = new int[MOST_PLACES * MOST_PLACES];
        }

        void take(Text told) {
            places = told.places;
            boxPlace = told.boxPlace;
            runs = told.runs;
            for (int k = 0; k < runs && k < MOST_RUNS; k++) {
                from[k] = told.from[k];
                to[k] = told.to[k];
                yards[k] = told.yards[k];
                drilled[k] = told.drilled[k];
                closed[k] = false;
            }
            reckon();
        }

        boolean isPlace(int c) {
            return c >= 0 && c < places;
        }

        boolean isRun(int k) {
            return k >= 0 && k < runs;
        }

        void close(int k, boolean is) {
            closed[k] = is;
            reckon();
        }

        int howManyClosed() {
            int found = 0;
            for (int k = 0; k < runs; k++) {
                found += closed[k] ? 1 : 0;
            }
            return found;
        }

        boolean isJoined(int a, int b) {
            return apart[a * MOST_PLACES + b] < FAR;
        }

        int yardsFrom(int a, int b) {
            int length = apart[a * MOST_PLACES + b];
            return length < FAR ? length / YARD : FAR;
        }

        int drilledFrom(int a, int b) {
            return apart[a * MOST_PLACES + b] % YARD;
        }

        int stepsFrom(int a, int b) {
            int steps = 0;
            for (int at = a; at != b && steps < MOST_PLACES; steps++) {
                int k = firstStep(at, b);
                if (k == NONE) {
                    return steps;
                }
                at = otherEnd(k, at);
            }
            return steps;
        }

        int stepOf(int a, int b, int wanted) {
            int at = a;
            for (int step = 0; step < MOST_PLACES; step++) {
                int k = firstStep(at, b);
                if (k == NONE || step == wanted) {
                    return k;
                }
                at = otherEnd(k, at);
            }
            return NONE;
        }

        /** All runs have yards, so the first run that lies on a shortest way begins the first row of runs. */
        private int firstStep(int a, int b) {
            int whole = apart[a * MOST_PLACES + b];
            if (a == b || whole >= FAR) {
                return NONE;
            }
            for (int k = 0; k < runs; k++) {
                if (!closed[k] && (from[k] == a || to[k] == a)
                        && length(k) + apart[otherEnd(k, a) * MOST_PLACES + b] == whole) {
                    return k;
                }
            }
            return NONE;
        }

        private int otherEnd(int k, int a) {
            return from[k] == a ? to[k] : from[k];
        }

        private int length(int k) {
            return yards[k] * YARD + drilled[k];
        }

        private void reckon() {
            for (int a = 0; a < MOST_PLACES; a++) {
                for (int b = 0; b < MOST_PLACES; b++) {
                    apart[a * MOST_PLACES + b] = a == b ? 0 : FAR;
                }
            }
            for (int k = 0; k < runs; k++) {
                if (!closed[k]) {
                    shorten(from[k], to[k], length(k));
                    shorten(to[k], from[k], length(k));
                }
            }
            for (int over = 0; over < places; over++) {
                for (int a = 0; a < places; a++) {
                    for (int b = 0; b < places; b++) {
                        shorten(a, b, apart[a * MOST_PLACES + over] + apart[over * MOST_PLACES + b]);
                    }
                }
            }
        }

        private void shorten(int a, int b, int length) {
            if (length < apart[a * MOST_PLACES + b]) {
                apart[a * MOST_PLACES + b] = length;
            }
        }
    }

    private static final class Points {
        int count;
        final int[] places;
        final int[] loads;
        final int[] rooms;
        final int[] owners;

        Points() {
            places = new int[MOST_POINTS];
            loads = new int[MOST_POINTS];
            rooms = new int[MOST_POINTS];
            owners = new int[MOST_POINTS];
        }

        static boolean isLoad(int v) {
            return v >= 1 && v <= MOST_LOAD;
        }

        boolean isPoint(int p) {
            return p >= 0 && p < count;
        }

        int all() {
            return (1 << count) - 1;
        }

        int add(int c, int v, int room) {
            int p = count;
            places[p] = c;
            loads[p] = v;
            rooms[p] = room;
            owners[p] = NONE;
            count++;
            return p;
        }

        /** All are looked at for being there before any is looked at for being free, as the document tells them. */
        int refusalOf(int[] cells, int spot, int n) {
            for (int j = 0; j < n; j++) {
                if (!isPoint(cells[spot + j])) {
                    return UNKNOWN;
                }
            }
            int told = 0;
            for (int j = 0; j < n; j++) {
                int p = cells[spot + j];
                if (owners[p] != NONE || (told >> p & 1) != 0) {
                    return STATE;
                }
                told |= 1 << p;
            }
            return 0;
        }

        void own(int[] stops, int number) {
            for (int j = 0; j < stops.length; j++) {
                if (isPoint(stops[j])) {
                    owners[stops[j]] = number;
                }
            }
        }
    }

    private static class Chain {
        final int number;
        final int fuse;
        final int[] stops;

        Chain(int number, int fuse, int[] stops) {
            this.number = number;
            this.fuse = fuse;
            this.stops = stops;
        }

        int kind() {
            return 0;
        }

        int pieces() {
            return stops.length;
        }

        int strands() {
            return 1;
        }

        /** What every piece carries is told by this lower number, so that all sums stay whole. */
        long carriedLower(House house, Points points) {
            return 1;
        }

        long carriedFirst(House house, Points points) {
            return loadsAhead(stops.length, points);
        }

        final boolean canBeLaid(House house, Points points) {
            for (int piece = 0; piece < pieces(); piece++) {
                if (yardsOf(piece, house, points) >= FAR) {
                    return false;
                }
            }
            return true;
        }

        final int allYards(House house, Points points) {
            int sum = 0;
            for (int piece = 0; piece < pieces(); piece++) {
                sum += yardsOf(piece, house, points);
            }
            return sum;
        }

        final int allDrilled(House house, Points points) {
            int sum = 0;
            for (int piece = 0; piece < pieces(); piece++) {
                sum += house.drilledFrom(endOf(piece, house, points), endOf(piece + 1, house, points));
            }
            return sum;
        }

        final long carriedUpper(int piece, House house, Points points) {
            return carriedFirst(house, points) - carriedLower(house, points) * loadsAhead(piece, points);
        }

        final long droppedUpper(int k, House house, Points points) {
            long sum = 0;
            for (int piece = 0; piece <= k; piece++) {
                sum += yardsOf(piece, house, points) * carriedUpper(piece, house, points);
            }
            return sum;
        }

        final int firstOverFuse(House house, Points points) {
            long most = fuse * carriedLower(house, points);
            for (int piece = 0; piece < pieces(); piece++) {
                if (Math.abs(carriedUpper(piece, house, points)) > most) {
                    return piece;
                }
            }
            return NONE;
        }

        final int loadsAhead(int piece, Points points) {
            int sum = 0;
            for (int j = 0; j < piece && j < stops.length; j++) {
                sum += points.loads[stops[j]];
            }
            return sum;
        }

        final int yardsOf(int piece, House house, Points points) {
            return house.yardsFrom(endOf(piece, house, points), endOf(piece + 1, house, points));
        }

        /** Ends of pieces: the box, then each point, then the box again. */
        final int endOf(int piece, House house, Points points) {
            return piece >= 1 && piece <= stops.length ? points.places[stops[piece - 1]] : house.boxPlace;
        }

        int telling(int[] tracing) {
            return tellingOfChain(tracing);
        }

        /** On its own, as strong ones tell by it past the ring's. */
        final int tellingOfChain(int[] tracing) {
            leave(tracing, 1);
            return stops.length;
        }

        int labelled(int[] tracing) {
            leave(tracing, 4);
            return number;
        }

        static void leave(int[] tracing, int body) {
            tracing[0] = 31 * tracing[0] + body;
        }
    }

    private static class Ring extends Chain {
        Ring(int number, int fuse, int[] stops) {
            super(number, fuse, stops);
        }

        int kind() {
            return 1;
        }

        int pieces() {
            return stops.length + 1;
        }

        long carriedLower(House house, Points points) {
            int around = allYards(house, points);
            return around == 0 ? 1 : around;
        }

        long carriedFirst(House house, Points points) {
            if (allYards(house, points) == 0) {
                return loadsAhead(stops.length, points);
            }
            long sum = 0;
            int toTheEnd = 0;
            for (int j = stops.length - 1; j >= 0; j--) {
                toTheEnd += yardsOf(j + 1, house, points);
                sum += points.loads[stops[j]] * toTheEnd;
            }
            return sum;
        }

        int telling(int[] tracing) {
            leave(tracing, 2);
            return tellingOfChain(tracing) + 100;
        }
    }

    private static final class Strong extends Ring {
        Strong(int number, int fuse, int[] stops) {
            super(number, fuse, stops);
        }

        int kind() {
            return 2;
        }

        int strands() {
            return 2;
        }

        int telling(int[] tracing) {
            leave(tracing, 3);
            int ofRing = super.telling(tracing);
            return ofRing + tellingOfChain(tracing);
        }

        int labelled(int[] tracing) {
            leave(tracing, 5);
            return 70;
        }
    }

    /** For each set and each point ahead of it: the least yards that the rest of an order needs. */
    private static final class Cables {
        static final int BOX = -1;
        private final int[] gaps;
        private final int[] starts;
        private final int[] rests;

        Cables() {
            gaps = new int[MOST_POINTS * MOST_POINTS];
            starts = new int[MOST_POINTS];
            rests = new int[MOST_SETS * MOST_POINTS];
        }

        void measure(House house, Points points) {
            for (int p = 0; p < points.count; p++) {
                for (int q = 0; q < points.count; q++) {
                    gaps[p * MOST_POINTS + q] = house.yardsFrom(points.places[p], points.places[q]);
                }
            }
        }

        void startFrom(House house, Points points, int c) {
            for (int p = 0; p < points.count; p++) {
                starts[p] = house.yardsFrom(c, points.places[p]);
            }
        }

        void reckonRests(int whole, boolean ring) {
            for (int set = 0; set < whole; set++) {
                if ((set & ~whole) == 0) {
                    reckonRestsOf(set, whole & ~set, ring);
                }
            }
        }

        private void reckonRestsOf(int set, int others, boolean ring) {
            for (int p = 0; p < MOST_POINTS; p++) {
                if ((others >> p & 1) != 0) {
                    rests[set * MOST_POINTS + p] = set == 0 ? homeFrom(p, ring) : leastFrom(p, set);
                }
            }
        }

        private int homeFrom(int p, boolean ring) {
            return ring ? starts[p] : 0;
        }

        void reckonSets(int whole, int[] yardsOfSets) {
            yardsOfSets[0] = 0;
            for (int set = 1; set <= whole; set++) {
                yardsOfSets[set] = leastFromBox(set);
            }
        }

        int leastFromBox(int set) {
            return leastFrom(BOX, set);
        }

        int stopOfOrder(int set, int wanted) {
            int at = BOX;
            int left = set;
            for (int k = 0; k <= wanted && left != 0; k++) {
                at = firstFrom(at, left);
                left &= ~(1 << at);
                if (k == wanted) {
                    return at;
                }
            }
            return NONE;
        }

        private int leastFrom(int at, int set) {
            int least = FAR;
            for (int q = 0; q < MOST_POINTS; q++) {
                if ((set >> q & 1) != 0) {
                    least = Math.min(least, over(at, q, set));
                }
            }
            return least;
        }

        private int firstFrom(int at, int set) {
            int least = leastFrom(at, set);
            for (int q = 0; q < MOST_POINTS; q++) {
                if ((set >> q & 1) != 0 && over(at, q, set) == least) {
                    return q;
                }
            }
            return 0;
        }

        private int over(int at, int q, int set) {
            int gap = at == BOX ? starts[q] : gaps[at * MOST_POINTS + q];
            return gap + rests[(set & ~(1 << q)) * MOST_POINTS + q];
        }
    }

    private static final class Plans {
        final int[] yardsOfSets;
        final int[] firstRow;
        private final int[] row;
        private final int[] groups;
        private final int[] borne;
        private final int[] rooms;
        private int leastSum;
        private int most;
        private int fuse;
        private boolean looksAtDark;

        Plans() {
            yardsOfSets = new int[MOST_SETS];
            firstRow = new int[MOST_POINTS];
            row = new int[MOST_POINTS];
            groups = new int[MOST_PLANNED];
            borne = new int[MOST_PLANNED];
            rooms = new int[MOST_ROOMS];
        }

        int leastYards(Points points, int w, int f, boolean dark) {
            most = w;
            fuse = f;
            looksAtDark = dark;
            leastSum = FAR;
            for (int x = 0; x < MOST_PLANNED; x++) {
                groups[x] = 0;
                borne[x] = 0;
            }
            gatherRooms(points);
            settle(points, 0, 0, 0);
            return leastSum;
        }

        private void gatherRooms(Points points) {
            for (int r = 0; r < MOST_ROOMS; r++) {
                rooms[r] = 0;
            }
            for (int p = 0; p < points.count; p++) {
                rooms[points.rooms[p]] |= 1 << p;
            }
        }

        /**
         * Ways are alike, so only the next unused one is begun: other rows are not the first.
         * More points never need less cable, so a sum that is no less than the least is left.
         */
        private void settle(Points points, int p, int begun, int sum) {
            if (sum >= leastSum) {
                return;
            }
            if (p >= points.count || p >= MOST_POINTS) {
                keepIfLit(sum);
                return;
            }
            for (int x = 0; x < most && x <= begun; x++) {
                if (borne[x] + points.loads[p] <= fuse) {
                    int without = groups[x];
                    int with = without | 1 << p;
                    groups[x] = with;
                    borne[x] += points.loads[p];
                    row[p] = x;
                    settle(points, p + 1, Math.max(begun, x + 1), sum - yardsOfSets[without] + yardsOfSets[with]);
                    groups[x] = without;
                    borne[x] -= points.loads[p];
                }
            }
        }

        private void keepIfLit(int sum) {
            if (looksAtDark && leavesRoomDark()) {
                return;
            }
            leastSum = sum;
            System.arraycopy(row, 0, firstRow, 0, MOST_POINTS);
        }

        private boolean leavesRoomDark() {
            for (int r = 0; r < MOST_ROOMS; r++) {
                for (int x = 0; x < most; x++) {
                    if (Integer.bitCount(rooms[r]) >= 2 && (rooms[r] & ~groups[x]) == 0) {
                        return true;
                    }
                }
            }
            return false;
        }
    }

    private static final class Doors {
        final int[] firstRow;
        private final int[] row;
        private int fewest;

        Doors() {
            firstRow = new int[MOST_DOORS];
            row = new int[MOST_DOORS];
        }

        int fewestCores(House house, int lamp, int set) {
            fewest = FAR;
            extend(house, lamp, set, 0, house.yardsFrom(house.boxPlace, lamp));
            return fewest;
        }

        private void extend(House house, int lamp, int left, int told, int sum) {
            if (told > 0 && left == 0) {
                keepIfFewer(sum + house.yardsFrom(row[told - 1], lamp));
                return;
            }
            for (int c = 0; c < house.places && told < MOST_DOORS; c++) {
                if ((left >> c & 1) != 0) {
                    int more = told == 0 ? house.yardsFrom(house.boxPlace, c) : 2 * house.yardsFrom(row[told - 1], c);
                    row[told] = c;
                    extend(house, lamp, left & ~(1 << c), told + 1, sum + more);
                }
            }
        }

        private void keepIfFewer(int sum) {
            if (sum < fewest) {
                fewest = sum;
                System.arraycopy(row, 0, firstRow, 0, MOST_DOORS);
            }
        }
    }

    private static final class Meter {
        int count;
        int fitting;
        private final int[] sets;
        private final int[] shown;
        private final int[] sums;
        private final int[] fittingWith;

        Meter() {
            sets = new int[MOST_READINGS];
            shown = new int[MOST_READINGS];
            sums = new int[MOST_SETS];
            fittingWith = new int[MOST_POINTS];
        }

        int add(int set, int v) {
            sets[count] = set;
            shown[count] = v;
            count++;
            return count - 1;
        }

        void weigh(Points points) {
            fitting = 0;
            for (int p = 0; p < MOST_POINTS; p++) {
                fittingWith[p] = 0;
            }
            addUp(points);
            for (int mine = 0; mine <= points.all(); mine++) {
                if (isFitting(mine)) {
                    countIn(mine);
                }
            }
        }

        /** A set's loads are those of the set without its last point, which comes ahead of it, and that one's. */
        private void addUp(Points points) {
            sums[0] = 0;
            for (int p = 0; p < points.count; p++) {
                int alone = 1 << p;
                for (int others = 0; others < alone; others++) {
                    sums[others | alone] = sums[others] + points.loads[p];
                }
            }
        }

        private boolean isFitting(int mine) {
            for (int k = 0; k < count; k++) {
                if (sums[mine & sets[k]] != shown[k]) {
                    return false;
                }
            }
            return true;
        }

        private void countIn(int mine) {
            fitting++;
            for (int p = 0; p < MOST_POINTS; p++) {
                fittingWith[p] += mine >> p & 1;
            }
        }

        int ofAll(int howMany) {
            int found = 0;
            for (int p = 0; p < howMany && fitting > 0; p++) {
                found |= fittingWith[p] == fitting ? 1 << p : 0;
            }
            return found;
        }

        int ofNone(int howMany) {
            int found = 0;
            for (int p = 0; p < howMany && fitting > 0; p++) {
                found |= fittingWith[p] == 0 ? 1 << p : 0;
            }
            return found;
        }

        int mostEven(int howMany) {
            int found = NONE;
            int leastPart = fitting + 1;
            for (int p = 0; p < howMany; p++) {
                int part = Math.max(fittingWith[p], fitting - fittingWith[p]);
                if (part < leastPart) {
                    leastPart = part;
                    found = p;
                }
            }
            return found;
        }
    }
}
