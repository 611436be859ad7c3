/** Promises 1 to 7: a new object, texts, runs, the box. */
public final class HouseTest {
    private static final Due DUE = new Due("HouseTest");
    private static final int NONE = LampWays.NONE, UNKNOWN = LampWays.UNKNOWN, OUTSIDE = LampWays.OUTSIDE;

    private static void newObject() {
        LampWays x = new LampWays();
        for (int what = 0; what <= 5; what++) {
            DUE.is("1 many(" + what + ")", x.many(what), 0);
        }
        DUE.is("1 trace()", x.trace(), 0);
        DUE.is("1 fault()", x.fault(), 0);
        for (int k = 0; k <= 3; k++) {
            DUE.is("1 a sheet has nothing", x.lose(k), 0);
            DUE.is("1 put", x.put(k, 0, 1), -11);
        }
        DUE.is("1 no places", x.run(0, 0, 0), UNKNOWN);
        DUE.is("1 no places", x.along(0, 0, 0), UNKNOWN);
        DUE.is("1 no places", x.box(0), UNKNOWN);
        DUE.is("1 no places", x.point(0, 1, 0), UNKNOWN);
        DUE.is("1 no places", x.cores(0, 1), UNKNOWN);
        DUE.is("1 no runs", x.ofRun(0, 0), UNKNOWN);
        DUE.is("1 no runs", x.shut(0, true), UNKNOWN);
        DUE.is("1 no runs", x.costs(0, 1, 1, false), UNKNOWN);
        DUE.is("1 no points", x.ofPoint(0, 0), UNKNOWN);
        DUE.is("1 no points", x.least(1, 0), OUTSIDE);
        DUE.is("1 no points", x.plan(1, 1, false), LampWays.STATE);
        DUE.is("1 no ways", x.tell(0), UNKNOWN);
        DUE.is("1 the empty set fits", x.fits(0), 1);
        DUE.is("1 next()", x.next(), NONE);
    }

    private static void goodTexts() {
        String[] texts = {"h2;b0;011", "h2;b1;109d9", "h8;b7;071;701d1", Lamps.FIVE};
        int[] runs = {1, 1, 2, 6};
        for (int t = 0; t < texts.length; t++) {
            for (int lane = 0; lane <= 2; lane++) {
                LampWays x = new LampWays();
                Lamps.write(x, lane, lane, texts[t]);
                DUE.is("2 " + texts[t], x.house(lane, lane, 0, texts[t].length()), runs[t]);
                DUE.is("2 places of " + texts[t], x.many(0), texts[t].charAt(1) - '0');
                DUE.is("2 runs of " + texts[t], x.many(1), runs[t]);
                DUE.is("2 box of " + texts[t], x.box(0), texts[t].charAt(4) - '0');
            }
        }
        LampWays x = new LampWays();
        Lamps.write(x, 0, 1, "xxh2;b0;013yy");
        DUE.is("2 from the third cell on", x.house(0, 1, 2, 9), 1);
        DUE.is("2 its yards", x.ofRun(0, 2), 3);
    }

    private static void mostRuns() {
        StringBuilder s = new StringBuilder("h8;b3");
        for (int k = 0; k < 14; k++) {
            s.append(";").append(k % 8).append((k + 1) % 8).append("9d9");
        }
        DUE.is("2 fourteen runs", Lamps.tell(new LampWays(), s.toString()), 14);
        DUE.is("2 the ; of a fifteenth run", Lamps.tell(new LampWays(), s + ";012"), -100 - s.length());
        DUE.is("2 the ; of a fifteenth run, alone", Lamps.tell(new LampWays(), s + ";"), -100 - s.length());
        DUE.is("2 another sign there", Lamps.tell(new LampWays(), s + "d"), -100 - s.length());
        LampWays x = Lamps.told(s.toString());
        DUE.is("2 fourteen runs, no fault", x.fault(), 0);
        x.shut(13, true);
        DUE.is("2 the last run is shut", x.many(2), 1);
        DUE.is("2 the last run", x.ofRun(13, 0), 5);
        DUE.is("2 the last run", x.ofRun(13, 1), 6);
        DUE.is("2 none behind it", x.ofRun(14, 0), UNKNOWN);
    }

    private static void faultyTexts() {
        String[] texts = {
            "", "x", "b", "h", "hh", "h1", "h9", "h0", "h3", "h3b", "h3;", "h3;h", "h3;b", "h3;b3", "h3;b0", "h3;b0d",
            "h3;b0;", "h3;b0;3", "h3;b0;0", "h3;b0;00", "h3;b0;03", "h3;b0;0;", "h3;b0;01", "h3;b0;010", "h3;b0;01d",
            "h3;b0;011x", "h3;b0;0111", "h3;b0;011d", "h3;b0;011d0", "h3;b0;011d;", "h3;b0;011d1d", "h3;b0;011d11",
            "h3;b0;011;", "h3;b0;011;;", "h3;b0;011;b", "h3;b0;011;212d3;22", "h2;b2;011", "h2;b0;021", "h3;b0;011h",
            "h8;b8", "H3", "h3;b0;01:", "h3;b0;01/", "h3;b:", "h3;b/",
            ";011", "h;011", "h3;011", "h3;;011", "h3;b;011", "h3;b0;011d:", "h3;b0;011d/", "h:", "h2;b0;0:1",
        };
        int[] faults = {
            0, 0, 0, 1, 1, 1, 1, 1, 2, 2, 3, 3, 4, 4, 5, 5,
            6, 6, 7, 7, 7, 7, 8, 8, 8,
            9, 9, 10, 10, 10, 11, 11,
            10, 10, 10, 17, 4, 7, 9,
            4, 0, 8, 8, 4, 4,
            0, 1, 3, 3, 4, 10, 10, 1, 7,
        };
        DUE.is("2 the table", faults.length, texts.length);
        for (int t = 0; t < texts.length; t++) {
            LampWays x = Lamps.lit(Lamps.FIVE, 1, 2);
            x.shut(0, true);
            DUE.is("2 " + texts[t], Lamps.tell(x, texts[t]), -100 - faults[t]);
            DUE.is("2 no fault of the machine", x.fault(), 0);
            DUE.is("2 places are as they were", x.many(0), 5);
            DUE.is("2 runs are as they were", x.many(1), 6);
            DUE.is("2 shut ones are as they were", x.many(2), 1);
            DUE.is("2 points are as they were", x.many(3), 2);
            DUE.is("2 a run is as it was", x.ofRun(0, 2), 3);
            DUE.is("2 a run is as it was", x.run(1, 3, 0), 3);
            DUE.is("2 the box is as it was", x.box(0), 0);
        }
    }

    private static void cutCodes() {
        LampWays x = new LampWays();
        for (int lane = 0; lane <= 2; lane++) {
            Lamps.write(x, lane, lane, "h2;b0;011");
            x.put(lane, 0, 104 + 256);
            DUE.is("2 a code cut to a byte", x.house(lane, lane, 0, 9), lane == 0 ? 1 : -100);
            x.put(lane, 0, 104 - 65536);
            DUE.is("2 a code cut to a short", x.house(lane, lane, 0, 9), lane <= 1 ? 1 : -100);
        }
    }

    private static void refusedTexts() {
        LampWays x = Lamps.told(Lamps.FIVE);
        x.lose(0);
        Lamps.write(x, 1, 1, "h2;b0;011");
        DUE.is("2 no such sheet", x.house(-1, 9, -1, -1), UNKNOWN);
        DUE.is("2 no such sheet", x.house(4, 0, 0, 9), UNKNOWN);
        DUE.is("2 no such lane", x.house(0, 3, 0, 9), OUTSIDE);
        DUE.is("2 no such lane", x.house(1, -1, -1, -1), OUTSIDE);
        DUE.is("2 its fault", x.fault(), 0);
        DUE.is("2 another lane", x.house(1, 0, -1, -1), -12);
        DUE.is("2 its fault", x.fault(), 2);
        DUE.is("2 nothing", x.house(0, 2, -1, -1), -11);
        DUE.is("2 its fault", x.fault(), 1);
        DUE.is("2 a length below 0", x.house(1, 1, -1, -1), -14);
        DUE.is("2 its fault", x.fault(), 4);
        DUE.is("2 before the first cell", x.house(1, 1, -1, 1), -13);
        DUE.is("2 its fault", x.fault(), 3);
        DUE.is("2 a cell too many", x.house(1, 1, 0, 10), -13);
        DUE.is("2 a cell too many", x.house(1, 1, 1, 9), -13);
        DUE.is("2 far too many", x.house(1, 1, 9, Integer.MAX_VALUE), -13);
        DUE.is("2 far away", x.house(1, 1, Integer.MAX_VALUE, Integer.MAX_VALUE), -13);
        DUE.is("2 none, behind the last", x.house(1, 1, 9, 0), -100);
        DUE.is("2 its fault", x.fault(), 0);
        DUE.is("2 none, from far behind", x.house(1, 1, 10, 0), -13);
        DUE.is("2 none, from ahead", x.house(1, 1, -1, 0), -13);
        DUE.is("2 nothing has changed", x.many(0), 5);
        DUE.is("2 nothing has changed", x.many(1), 6);
    }

    private static void allAnew() {
        LampWays x = Lamps.lit(Lamps.FIVE, 1, 2, 3);
        Lamps.lay(x, 2, 9, 0, 1);
        x.reading(1, 1);
        x.shut(0, true);
        x.shut(2, true);
        x.box(4);
        x.tell(0);
        int trace = x.trace();
        DUE.is("2 anew", Lamps.tell(x, "h4;b2;011;124"), 2);
        DUE.is("2 places", x.many(0), 4);
        DUE.is("2 runs", x.many(1), 2);
        DUE.is("2 no run is shut", x.many(2), 0);
        DUE.is("2 no run is shut", x.ofRun(0, 4), 0);
        DUE.is("2 no points", x.many(3), 0);
        DUE.is("2 no ways", x.many(4), 0);
        DUE.is("2 no readings", x.many(5), 0);
        DUE.is("2 no ways", x.ofWay(0, 0), UNKNOWN);
        DUE.is("2 no third run", x.ofRun(2, 0), UNKNOWN);
        DUE.is("2 the sheet stays", x.lose(2), 1);
        DUE.is("2 trace stays", x.trace(), trace);
        DUE.is("2 the box is the text's", x.box(2), 2);
        DUE.is("2 its runs", x.run(0, 2, 0), 5);
        DUE.is("2 a place on its own", x.run(0, 3, 0), NONE);
        DUE.is("2 the first point", x.point(3, 1, 0), 0);
        DUE.is("2 is of no way", x.ofPoint(0, 3), NONE);
        DUE.is("2 the first way", Lamps.lay(x, 0, 9, 0), 0);
        DUE.is("2 the first reading", x.reading(0, 0), 0);
        DUE.is("2 drilled", Lamps.tell(x, "h2;b0;011d7"), 1);
        DUE.is("2 not drilled", Lamps.tell(x, "h2;b0;011"), 1);
        DUE.is("2 not drilled", x.ofRun(0, 3), 0);
    }

    private static void ofRun() {
        LampWays x = Lamps.told("h5;b0;013d2;427");
        int[][] want = {{0, 1, 3, 2, 0}, {4, 2, 7, 0, 0}};
        for (int k = 0; k < 2; k++) {
            for (int what = 0; what <= 4; what++) {
                DUE.is("3 run " + k + ", " + what, x.ofRun(k, what), want[k][what]);
            }
            DUE.is("3 another number", x.ofRun(k, 5), OUTSIDE);
            DUE.is("3 another number", x.ofRun(k, -1), OUTSIDE);
        }
        DUE.is("3 no such run", x.ofRun(2, 9), UNKNOWN);
        DUE.is("3 no such run", x.ofRun(-1, 0), UNKNOWN);
        DUE.is("3 no such run", x.ofRun(Integer.MIN_VALUE, 0), UNKNOWN);
        x.shut(1, true);
        DUE.is("3 shut", x.ofRun(1, 4), 1);
        DUE.is("3 not shut", x.ofRun(0, 4), 0);
    }

    private static void shut() {
        LampWays x = Lamps.told(Lamps.SQUARE);
        DUE.is("4 open at first", x.shut(0, false), 0);
        DUE.is("4 becomes shut", x.shut(0, true), 1);
        DUE.is("4 is shut", x.shut(0, true), 0);
        DUE.is("4 the other way round", x.run(0, 1, 0), 3);
        DUE.is("4 shut ones", x.many(2), 1);
        DUE.is("4 becomes open", x.shut(0, false), 1);
        DUE.is("4 is open", x.shut(0, false), 0);
        DUE.is("4 by itself", x.run(0, 1, 0), 1);
        DUE.is("4 no such run", x.shut(4, true), UNKNOWN);
        DUE.is("4 no such run", x.shut(-1, false), UNKNOWN);
        DUE.is("4 no such run", x.shut(Integer.MAX_VALUE, true), UNKNOWN);
        DUE.is("4 shut ones", x.many(2), 0);
        x.shut(1, true);
        x.shut(3, true);
        DUE.is("4 shut ones", x.many(2), 2);
        DUE.is("4 none left", x.run(0, 2, 0), NONE);
        DUE.is("4 one left", x.run(3, 2, 0), 1);
    }

    private static void runs() {
        LampWays x = Lamps.told(Lamps.FIVE);
        DUE.is("5 yards", x.run(0, 3, 0), 6);
        DUE.is("5 drilled", x.run(0, 3, 1), 2);
        DUE.is("5 runs", x.run(0, 3, 2), 2);
        DUE.is("5 either way", x.run(3, 0, 0), 6);
        DUE.is("5 the same place", x.run(4, 4, 0), 0);
        DUE.is("5 the same place", x.run(4, 4, 1), 0);
        DUE.is("5 the same place", x.run(4, 4, 2), 0);
        DUE.is("5 another number", x.run(0, 3, 3), OUTSIDE);
        DUE.is("5 another number", x.run(0, 3, -1), OUTSIDE);
        DUE.is("5 no such place", x.run(5, 0, 3), UNKNOWN);
        DUE.is("5 no such place", x.run(0, 5, 0), UNKNOWN);
        DUE.is("5 no such place", x.run(-1, 0, 0), UNKNOWN);
        DUE.is("5 no such place", x.run(0, -1, 3), UNKNOWN);
        LampWays apart = Lamps.told("h3;b0;011");
        for (int what = 0; what <= 2; what++) {
            DUE.is("5 none", apart.run(0, 2, what), NONE);
            DUE.is("5 none", apart.run(2, 1, what), NONE);
        }
        DUE.is("5 outside comes first", apart.run(0, 2, 3), OUTSIDE);
        LampWays row = Lamps.told("h8;b0;019d9;129d9;239d9;349d9;459d9;569d9;679d9");
        DUE.is("5 the longest", row.run(0, 7, 0), 63);
        DUE.is("5 the longest", row.run(0, 7, 1), 63);
        DUE.is("5 the longest", row.run(7, 0, 2), 7);
    }

    private static void runsAmongEquals() {
        LampWays x = Lamps.told("h4;b0;011d5;131;021;231d1;032;231d1");
        DUE.is("5 the least drilled", x.run(0, 3, 1), 0);
        DUE.is("5 the least drilled", x.run(0, 3, 2), 1);
        x.shut(4, true);
        DUE.is("5 the least drilled of two", x.run(0, 3, 1), 1);
        DUE.is("6 of two alike the first", x.along(0, 3, 1), 3);
        DUE.is("6 of two alike the first", x.along(3, 0, 0), 3);
        x.shut(3, true);
        DUE.is("6 the other one", x.along(0, 3, 1), 5);
        LampWays less = Lamps.told("h3;b0;013;011d9;122");
        DUE.is("5 less yards, though drilled", less.run(0, 1, 1), 9);
        DUE.is("5 less yards, though drilled", less.along(0, 2, 0), 1);
        LampWays cross = Lamps.told("h4;b0;011;231;131;021");
        DUE.is("6 the first row", cross.along(0, 3, 0), 0);
        DUE.is("6 the first row", cross.along(0, 3, 1), 2);
        DUE.is("6 the first row back", cross.along(3, 0, 0), 1);
        DUE.is("6 the first row back", cross.along(3, 0, 1), 3);
        LampWays shortRow = Lamps.told("h3;b0;022;011;121");
        DUE.is("5 the first row is short", shortRow.run(0, 2, 2), 1);
        LampWays longRow = Lamps.told("h3;b0;011;121;022");
        DUE.is("5 the first row is long", longRow.run(0, 2, 2), 2);
        DUE.is("5 the first row back", longRow.run(2, 0, 2), 2);
        LampWays mixed = Lamps.told("h3;b0;011;022;121");
        DUE.is("5 long from here", mixed.run(0, 2, 2), 2);
        DUE.is("5 short from there", mixed.run(2, 0, 2), 1);
    }

    private static void along() {
        LampWays x = Lamps.told(Lamps.FIVE);
        DUE.is("6 the first", x.along(0, 3, 0), 0);
        DUE.is("6 the second", x.along(0, 3, 1), 5);
        DUE.is("6 none", x.along(0, 3, 2), NONE);
        DUE.is("6 none", x.along(0, 3, Integer.MAX_VALUE), NONE);
        DUE.is("6 back", x.along(3, 0, 0), 5);
        DUE.is("6 back", x.along(3, 0, 1), 0);
        DUE.is("6 the same place", x.along(2, 2, 0), NONE);
        DUE.is("6 below 0", x.along(0, 3, -1), OUTSIDE);
        DUE.is("6 below 0", x.along(2, 2, Integer.MIN_VALUE), OUTSIDE);
        DUE.is("6 no such place", x.along(5, 0, -1), UNKNOWN);
        DUE.is("6 no such place", x.along(0, -1, 0), UNKNOWN);
        LampWays row = Lamps.told("h8;b0;011;121;231;341;451;561;671");
        for (int k = 0; k < 7; k++) {
            DUE.is("6 one after another", row.along(0, 7, k), k);
            DUE.is("6 one after another, back", row.along(7, 0, k), 6 - k);
        }
        DUE.is("6 not more", row.along(0, 7, 7), NONE);
        DUE.is("6 not more", row.along(0, 7, 8), NONE);
        row.shut(3, true);
        DUE.is("6 none", row.along(0, 7, 0), NONE);
    }

    private static void box() {
        LampWays x = Lamps.lit("h4;b2;011;121;234", 0, 3);
        DUE.is("7 as told", x.box(0), 2);
        DUE.is("7 where it was", x.box(0), 0);
        DUE.is("7 from there", x.least(2, 0), 6);
        DUE.is("7 where it was", x.box(3), 0);
        DUE.is("7 from there", x.least(2, 0), 0);
        DUE.is("7 no such place", x.box(4), UNKNOWN);
        DUE.is("7 no such place", x.box(-1), UNKNOWN);
        DUE.is("7 as it was", x.box(3), 3);
    }

    public static void main(String[] args) {
        newObject();
        goodTexts();
        mostRuns();
        faultyTexts();
        cutCodes();
        refusedTexts();
        allAnew();
        ofRun();
        shut();
        runs();
        runsAmongEquals();
        along();
        box();
        DUE.end();
    }
}
