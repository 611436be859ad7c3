/** The least and the greatest that is taken, and the first on either side that is not: texts, runs, the box. */
public final class HouseEdgesTest {
    private static final Due DUE = new Due("HouseEdgesTest");
    private static final int NONE = LampWays.NONE, UNKNOWN = LampWays.UNKNOWN;
    private static final int MIN = Integer.MIN_VALUE, MAX = Integer.MAX_VALUE;

    private static int told(String text) {
        return Lamps.tell(new LampWays(), text);
    }

    /** What a text answers whose codes are given as ints, so that codes beyond letters can be told. */
    private static int toldCodes(String ahead, int code) {
        LampWays x = new LampWays();
        x.sheet(0, 2, ahead.length() + 1);
        for (int i = 0; i < ahead.length(); i++) {
            x.put(0, i, ahead.charAt(i));
        }
        x.put(0, ahead.length(), code);
        return x.house(0, 2, 0, ahead.length() + 1);
    }

    /** "h and a digit 2 .. 8 (so many PLACES, from 0 on)". */
    private static void places() {
        for (int n = 0; n <= 9; n++) {
            LampWays x = new LampWays();
            boolean taken = n >= 2 && n <= 8;
            DUE.is("2 h" + n, Lamps.tell(x, "h" + n + ";b0;011"), taken ? 1 : -101);
            DUE.is("2 h" + n + ", its places", x.many(0), taken ? n : 0);
            DUE.is("2 h" + n + ", its last place", x.run(n - 1, n - 1, 0), taken ? 0 : UNKNOWN);
            DUE.is("2 h" + n + ", none behind it", x.run(n, n, 0), UNKNOWN);
        }
        DUE.is("2 h with the code ahead of digits", told("h/;b0;011"), -101);
        DUE.is("2 h with the code behind digits", told("h:;b0;011"), -101);
        DUE.is("2 h with two digits", told("h10;b0;011"), -101);
        DUE.is("2 h with a second digit", told("h22;b0;011"), -102);
    }

    /** "then ; and b and a PLACE's digit (the BOX)". */
    private static void boxes() {
        for (int n = 2; n <= 8; n++) {
            for (int b = 0; b <= 9; b++) {
                LampWays x = new LampWays();
                DUE.is("2 h" + n + ";b" + b, Lamps.tell(x, "h" + n + ";b" + b + ";011"), b < n ? 1 : -104);
                DUE.is("2 h" + n + ";b" + b + ", where it is", x.box(0), b < n ? b : UNKNOWN);
            }
        }
        DUE.is("2 two boxes", told("h3;b0;b1;011"), -106);
        DUE.is("2 no box", told("h3;011"), -103);
    }

    private static String manyRuns(int runs, String run) {
        StringBuilder s = new StringBuilder("h2;b0");
        for (int k = 0; k < runs; k++) {
            s.append(';').append(run);
        }
        return s.toString();
    }

    /** "then 1 to 14 RUNS, numbered from 0 on, each behind a ;"; "(the ; of a fifteenth RUN)". */
    private static void howManyRuns() {
        for (String run : new String[] {"011", "109", "011d1", "109d9"}) {
            DUE.is("2 no run", told(manyRuns(0, run)), -105);
            for (int runs = 1; runs <= 14; runs++) {
                LampWays x = new LampWays();
                DUE.is("2 runs of " + run, Lamps.tell(x, manyRuns(runs, run)), runs);
                DUE.is("2 runs of " + run, x.many(1), runs);
                DUE.is("2 the first", x.ofRun(0, 2), run.charAt(2) - '0');
                DUE.is("2 the last", x.ofRun(runs - 1, 2), run.charAt(2) - '0');
                DUE.is("2 none ahead of the first", x.ofRun(-1, 2), UNKNOWN);
                DUE.is("2 none behind the last", x.ofRun(runs, 2), UNKNOWN);
            }
            int fifteenth = -100 - manyRuns(14, run).length();
            String all = manyRuns(15, run);
            DUE.is("2 fifteen runs of " + run, told(all), fifteenth);
            for (int less = 1; less <= run.length(); less++) {
                DUE.is("2 a fifteenth run begun", told(all.substring(0, all.length() - less)), fifteenth);
            }
        }
        DUE.is("2 sixteen runs", told(manyRuns(16, "011")), -161);
        DUE.is("2 twenty-three runs, all that a sheet holds", told(manyRuns(23, "011")), -161);
        LampWays x = Lamps.told(manyRuns(14, "019"));
        DUE.is("2 a refused text leaves the house", Lamps.tell(x, manyRuns(15, "011")), -161);
        DUE.is("2 a refused text leaves the house", x.ofRun(13, 2), 9);
    }

    /** "two PLACES' digits, not the same". */
    private static void ends() {
        for (int n = 2; n <= 8; n += 3) {
            for (int a = 0; a <= 9; a++) {
                for (int b = 0; b <= 9; b++) {
                    LampWays x = new LampWays();
                    int due = a >= n ? -106 : b >= n || a == b ? -107 : 1;
                    DUE.is("2 run from " + a + " to " + b + " of " + n,
                            Lamps.tell(x, "h" + n + ";b0;" + a + b + "5"), due);
                    DUE.is("3 run from " + a, x.ofRun(0, 0), due == 1 ? a : UNKNOWN);
                    DUE.is("3 run to " + b, x.ofRun(0, 1), due == 1 ? b : UNKNOWN);
                }
            }
        }
    }

    /** "a digit 1 .. 9 (YARDS), then perhaps d and a digit 1 .. 9 (DRILLED)". */
    private static void yardsAndDrilled() {
        for (int v = 0; v <= 9; v++) {
            LampWays x = new LampWays();
            DUE.is("2 yards " + v, Lamps.tell(x, "h2;b0;01" + v), v == 0 ? -108 : 1);
            DUE.is("3 yards " + v, x.ofRun(0, 2), v == 0 ? UNKNOWN : v);
            DUE.is("3 not drilled", x.ofRun(0, 3), v == 0 ? UNKNOWN : 0);
            LampWays d = new LampWays();
            DUE.is("2 drilled " + v, Lamps.tell(d, "h2;b0;014d" + v), v == 0 ? -110 : 1);
            DUE.is("3 drilled " + v, d.ofRun(0, 3), v == 0 ? UNKNOWN : v);
            DUE.is("3 its yards", d.ofRun(0, 2), v == 0 ? UNKNOWN : 4);
        }
        DUE.is("2 d without a digit ahead of a run", told("h2;b0;011d;011"), -110);
        DUE.is("2 d twice", told("h2;b0;011d1d1"), -111);
        DUE.is("2 d without yards", told("h2;b0;01d1"), -108);
        DUE.is("2 a second digit of yards", told("h2;b0;0110"), -109);
        DUE.is("2 a second digit of drilled", told("h2;b0;011d10"), -111);
    }

    /**
     * "FIRST FAULT: the place (from 0 on) of the first code with which no TEXT goes on; how many codes there are, if it
     * just ends too soon." Each code is told behind each beginning: those that are named go on, no other one does.
     */
    private static void eachCodeBehindEachBeginning() {
        String[] beginnings = {
            "", "h", "h4", "h4;", "h4;b", "h4;b3", "h4;b3;", "h4;b3;0", "h4;b3;2", "h4;b3;01", "h4;b3;018",
            "h4;b3;018d", "h4;b3;018d8", "h4;b3;018;", "h4;b3;018d8;", "h4;b3;018;3", "h4;b3;018;32",
        };
        String[] goOn = {
            "h", "2345678", ";", "b", "0123", ";", "0123", "123", "013", "123456789", "d;",
            "123456789", ";", "0123", "0123", "012", "123456789",
        };
        int[] runsIfWhole = {0, 0, 0, 0, 0, 0, 0, 0, 0, 1, 0, 1, 0, 0, 0, 0, 2};
        DUE.is("2 the table", goOn.length, beginnings.length);
        for (int t = 0; t < beginnings.length; t++) {
            int at = beginnings[t].length();
            for (int code = -140; code < 400; code++) {
                boolean goesOn = code > 0 && code < 128 && goOn[t].indexOf(code) >= 0;
                int due = !goesOn ? -100 - at : runsIfWhole[t] > 0 ? runsIfWhole[t] : -100 - at - 1;
                DUE.is("2 code " + code + " behind " + beginnings[t], toldCodes(beginnings[t], code), due);
            }
            for (int code : new int[] {MIN, MAX, 65536 + 104, 65536 + 59, 256 + 59}) {
                DUE.is("2 code " + code + " behind " + beginnings[t], toldCodes(beginnings[t], code), -100 - at);
            }
        }
    }

    /** "how many codes there are, if it just ends too soon": every beginning of a text, whole ones among them. */
    private static void eachBeginning() {
        String text = "h8;b7;079;701d1;012d9;435";
        String whole = "";
        for (int n = 0; n <= text.length(); n++) {
            LampWays x = new LampWays();
            Lamps.write(x, 1, 1, text);
            int due = n == 9 ? 1 : n == 13 || n == 15 ? 2 : n == 19 || n == 21 ? 3 : n == 25 ? 4 : -100 - n;
            whole = due > 0 ? whole + " " + n : whole;
            DUE.is("2 the first " + n + " codes", x.house(1, 1, 0, n), due);
            DUE.is("2 the first " + n + " codes, no fault of the machine", x.fault(), 0);
            DUE.is("2 the first " + n + " codes, runs", x.many(1), Math.max(0, due));
        }
        DUE.holds("2 whole ones:" + whole, whole.equals(" 9 13 15 19 21 25"));
    }

    /** "A HOUSE by a TEXT of n cells of a SHEET from i on": from the first, the last, the only ones; a full sheet. */
    private static void cellsOfTheText() {
        String text = "h2;b1;017";
        for (int lane = 0; lane <= 2; lane++) {
            for (int ahead : new int[] {0, 1, 50, 90, 91}) {
                LampWays x = new LampWays();
                x.sheet(3, lane, 100);
                for (int i = 0; i < text.length(); i++) {
                    x.put(3, ahead + i, text.charAt(i));
                }
                DUE.is("2 a text " + ahead + " cells on", x.house(3, lane, ahead, 9), 1);
                DUE.is("2 its yards", x.ofRun(0, 2), 7);
                DUE.is("2 one cell more", x.house(3, lane, ahead, 10), ahead == 91 ? -13 : -109);
                DUE.is("2 all to the end", x.house(3, lane, ahead, 100 - ahead), ahead == 91 ? 1 : -109);
                DUE.is("2 one cell further on", x.house(3, lane, ahead + 1, 8), -100);
            }
        }
        LampWays none = new LampWays();
        none.sheet(0, 0, 0);
        DUE.is("2 none of none", none.house(0, 0, 0, 0), -100);
        DUE.is("2 one of none", none.house(0, 0, 0, 1), -13);
        DUE.is("2 none from 1 on", none.house(0, 0, 1, 0), -13);
        DUE.is("2 none from -1 on", none.house(0, 0, -1, 0), -13);
    }

    /** "A TEXT that is taken makes all anew: no POINTS, WAYS, READINGS, no RUN is SHUT." Also of all that is full. */
    private static void anewOfFull() {
        LampWays x = Twins.full();
        x.shut(0, true);
        DUE.is("2 a refused text", Lamps.tell(x, "h2;b0;01"), -108);
        int[] full = {2, 1, 1, 8, 5, 12};
        int[] anew = {2, 1, 0, 0, 0, 0};
        for (int what = 0; what <= 5; what++) {
            DUE.is("2 a refused text leaves " + what, x.many(what), full[what]);
        }
        DUE.is("2 the same once more", Lamps.tell(x, "h2;b0;011d1"), 1);
        for (int what = 0; what <= 5; what++) {
            DUE.is("2 anew " + what, x.many(what), anew[what]);
        }
        for (int p = 0; p < 8; p++) {
            DUE.is("8 points from 0 on", x.point(0, 1, 0), p);
        }
        DUE.is("8 a ninth", x.point(0, 1, 0), LampWays.FULL);
        for (int way = 0; way < 6; way++) {
            DUE.is("11 ways from 0 on", Lamps.lay(x, 0, 9, way), way);
        }
        DUE.is("11 a seventh", Lamps.lay(x, 0, 9, 6), LampWays.FULL);
        for (int k = 0; k < 12; k++) {
            DUE.is("26 readings from 0 on", x.reading(0, 0), k);
        }
        DUE.is("26 a thirteenth", x.reading(0, 0), LampWays.FULL);
        DUE.is("2 fewer places and runs", Lamps.tell(Lamps.told(Lamps.FIVE), "h2;b1;012"), 1);
    }

    /** A house of fewer places and runs leaves nothing of the greater one ahead of it. */
    private static void fewerPlaces() {
        LampWays x = Lamps.told("h8;b7;071;012;023;034;045;056;067;121");
        x.shut(7, true);
        DUE.is("2 fewer places and runs", Lamps.tell(x, "h3;b2;019d9"), 1);
        DUE.is("2 no fourth place", x.run(0, 3, 0), UNKNOWN);
        DUE.is("2 no second run", x.ofRun(1, 2), UNKNOWN);
        DUE.is("2 none to the last place", x.run(0, 2, 0), NONE);
        DUE.is("2 none between", x.run(1, 2, 0), NONE);
        DUE.is("2 the one there is", x.run(1, 0, 1), 9);
        DUE.is("2 no shut ones", x.many(2), 0);
        DUE.is("2 more again", Lamps.tell(x, "h8;b0;671;761"), 2);
        DUE.is("2 no old run", x.run(0, 7, 0), NONE);
        DUE.is("2 a new one", x.run(6, 7, 0), 1);
        DUE.is("2 open", x.ofRun(1, 4), 0);
    }

    /** Promise 4: "A RUN becomes SHUT (true), or open: 1; 0: it was so", none, one, all of fourteen. */
    private static void shut() {
        LampWays x = Lamps.told(manyRuns(14, "011d1"));
        for (int k = 0; k < 14; k++) {
            DUE.is("4 open, was so", x.shut(k, false), 0);
            DUE.is("4 run by the first that is open", x.along(0, 1, 0), k);
            DUE.is("4 shut", x.shut(k, true), 1);
            DUE.is("4 shut, was so", x.shut(k, true), 0);
            DUE.is("4 how many", x.many(2), k + 1);
            DUE.is("3 whether it is", x.ofRun(k, 4), 1);
        }
        DUE.is("4 all are shut", x.run(0, 1, 0), NONE);
        DUE.is("4 all are shut, the same place", x.run(1, 1, 0), 0);
        DUE.is("4 all are shut, no first run", x.along(0, 1, 0), NONE);
        DUE.is("4 the last opens", x.shut(13, false), 1);
        DUE.is("4 by the last", x.along(1, 0, 0), 13);
        DUE.is("4 how many", x.many(2), 13);
        DUE.is("3 whether it is", x.ofRun(13, 4), 0);
    }

    /** "RUNS are gone either way, SHUT ones not." */
    private static void eitherWay() {
        LampWays x = Lamps.told("h3;b0;102d3;214");
        for (int what = 0; what <= 2; what++) {
            DUE.is("5 there and back", x.run(0, 2, what), x.run(2, 0, what));
        }
        DUE.is("5 against both", x.run(0, 2, 0), 6);
        DUE.is("6 against both", x.along(0, 2, 0), 0);
        DUE.is("6 against both", x.along(0, 2, 1), 1);
        DUE.is("6 along both", x.along(2, 0, 0), 1);
        x.shut(0, true);
        DUE.is("5 shut there", x.run(1, 0, 0), NONE);
        DUE.is("5 shut back", x.run(0, 1, 0), NONE);
        DUE.is("5 not shut", x.run(1, 2, 0), 4);
    }

    /** "the RUNS of the least YARDS together; of several the least DRILLED together; of these the first as a row". */
    private static void whichRun() {
        LampWays yards = Lamps.told("h3;b0;029;014d9;124d9");
        DUE.is("5 one yard less by two", yards.run(0, 2, 0), 8);
        DUE.is("5 though drilled", yards.run(0, 2, 1), 18);
        LampWays even = Lamps.told("h3;b0;014d1;124d1;028d3");
        DUE.is("5 alike in yards, one less drilled", even.run(0, 2, 1), 2);
        DUE.is("5 by two", even.run(0, 2, 2), 2);
        LampWays drilled = Lamps.told("h3;b0;014d1;124d1;028d1");
        DUE.is("5 alike in yards, one less drilled", drilled.run(0, 2, 1), 1);
        DUE.is("6 by the later row", drilled.along(0, 2, 0), 2);
        LampWays rows = Lamps.told("h3;b0;028d2;014d1;124d1");
        DUE.is("6 alike in both, the first row", rows.along(0, 2, 0), 0);
        DUE.is("6 alike in both, no second", rows.along(0, 2, 1), NONE);
        LampWays more = Lamps.told("h3;b0;014d1;028d2;124d1");
        DUE.is("6 alike in both, the first row", more.along(0, 2, 0), 0);
        DUE.is("6 alike in both, its second", more.along(0, 2, 1), 2);
        DUE.is("6 alike in both, back", more.along(2, 0, 0), 1);
        LampWays twice = Lamps.told("h2;b0;015;015;105;014;014");
        DUE.is("6 the first of the shortest alike", twice.along(0, 1, 0), 3);
        twice.shut(3, true);
        DUE.is("6 the next of them", twice.along(0, 1, 0), 4);
        twice.shut(4, true);
        DUE.is("6 the first of the others", twice.along(1, 0, 0), 0);
        LampWays second = Lamps.told("h4;b0;011;231;131;131");
        DUE.is("6 the second run decides", second.along(0, 3, 1), 2);
        LampWays last = Lamps.told("h4;b0;011;121;231;231");
        DUE.is("6 the last run decides", last.along(0, 3, 2), 2);
    }

    /** "NONE, if there is none; nothing, if it is the same PLACE": of each place, each of eight. */
    private static void noneAndNothing() {
        LampWays x = Lamps.told("h8;b0;011");
        for (int a = 0; a < 8; a++) {
            for (int b = 0; b < 8; b++) {
                int yards = a == b ? 0 : a + b == 1 ? 1 : NONE;
                DUE.is("5 yards " + a + ", " + b, x.run(a, b, 0), yards);
                DUE.is("5 drilled " + a + ", " + b, x.run(a, b, 1), yards == 1 ? 0 : yards);
                DUE.is("5 runs " + a + ", " + b, x.run(a, b, 2), yards);
                DUE.is("6 the first " + a + ", " + b, x.along(a, b, 0), yards == 1 ? 0 : NONE);
                DUE.is("6 the second " + a + ", " + b, x.along(a, b, 1), NONE);
            }
        }
    }

    /** Promise 6: "The k-th RUN of it (0 on); NONE": each of seven, one more, far more. */
    private static void along() {
        LampWays x = Lamps.told("h8;b0;671;561;451;341;231;121;011");
        for (int k : new int[] {0, 1, 2, 3, 4, 5, 6, 7, 8, 9, 100, MAX}) {
            DUE.is("6 the " + k + "-th", x.along(0, 7, k), k <= 6 ? 6 - k : NONE);
            DUE.is("6 the " + k + "-th back", x.along(7, 0, k), k <= 6 ? k : NONE);
            DUE.is("6 the " + k + "-th of nothing", x.along(3, 3, k), NONE);
        }
    }

    /** Promise 7: "The BOX becomes at a PLACE: where it was": each place of each house. */
    private static void box() {
        for (int n = 2; n <= 8; n++) {
            LampWays x = Lamps.told("h" + n + ";b1;011");
            int was = 1;
            for (int c = 0; c < n; c++) {
                DUE.is("7 box " + c + " of " + n, x.box(c), was);
                DUE.is("7 box " + c + " of " + n + " again", x.box(c), c);
                was = c;
            }
            DUE.is("7 one place more", x.box(n), UNKNOWN);
            DUE.is("7 where it stays", x.box(0), n - 1);
        }
    }

    public static void main(String[] args) {
        places();
        boxes();
        howManyRuns();
        ends();
        yardsAndDrilled();
        eachCodeBehindEachBeginning();
        eachBeginning();
        cellsOfTheText();
        anewOfFull();
        fewerPlaces();
        shut();
        eitherWay();
        whichRun();
        noneAndNothing();
        along();
        box();
        DUE.end();
    }
}
