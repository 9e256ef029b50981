/** A test of its own for each sentence on the land and on SHEETS that names an edge (promises 1 to 8). */
public final class LandSentencesTest {
    private static final Check c = new Check("LandSentencesTest");
    private static final int LOWEST = Integer.MIN_VALUE;
    private static final int HIGHEST = Integer.MAX_VALUE;

    public static void main(String[] args) {
        object();
        places();
        lines();
        mills();
        slowAndReady();
        waterAndWind();
        quarters();
        loadsAndComes();
        sheets();
        wantedOfSheets();
        write();
        copy();
        day();
        c.end();
    }

    private static LightsMarket land(int places) {
        LightsMarket x = new LightsMarket();
        Setup.places(x, places);
        return x;
    }

    private static void object() {
        c.sentence("An object is used for at most 512 calls after it has been made", () -> {
            LightsMarket x = new LightsMarket();
            for (int i = 0; i < 510; i++) {
                x.fault();
            }
            c.due("the 511th call", 0, x::place);
            c.due("the 512th call", 1, () -> x.count(1));
        });
        c.sentence("`NONE = -1`: There is none.", () -> c.same("NONE", -1, LightsMarket.NONE));
        c.sentence("`LightsMarket()`: No PLACES; TONIGHT 0.", () -> {
            LightsMarket x = new LightsMarket();
            c.due("PLACES", 0, () -> x.count(1));
            c.missing("PLACE 0", () -> x.price(0, 0));
            c.due("TONIGHT", 0, () -> x.count(0));
            c.due("TONIGHT when none go by", 0, () -> x.evenings(0));
        });
    }

    private static void places() {
        c.sentence("PLACES, from 0 on, at most 4.", () -> {
            LightsMarket x = new LightsMarket();
            for (int p = 0; p < 4; p++) {
                c.due("its number", p, x::place);
            }
            c.due("a fifth", -1, x::place);
        });
        c.sentence("A PLACE: its number. NONE: there are 4.", () -> {
            LightsMarket x = land(3);
            c.due("the fourth", 3, x::place);
            c.due("there are 4", -1, x::place);
            c.due("there are 4 still", -1, x::place);
            c.due("how many", 4, () -> x.count(1));
            c.missing("PLACE 4", () -> x.bill(4, 0));
        });
    }

    /** A LINE's number, where each is a new land of two PLACES. */
    private static void lineOf(int stiffness, int most, int want) {
        LightsMarket x = land(2);
        c.due("line of " + stiffness + ", " + most, want, () -> x.line(0, 1, stiffness, most));
        c.due("how many", want == 0 ? 1 : 0, () -> x.count(2));
    }

    private static void lines() {
        c.sentence("LINES, from 0 on, at most 5", () -> {
            LightsMarket x = land(2);
            for (int l = 0; l < 5; l++) {
                c.due("its number", l, () -> x.line(0, 1, 1, 1));
            }
            c.due("a sixth", -1, () -> x.line(0, 1, 1, 1));
            c.due("how many", 5, () -> x.count(2));
            c.missing("LINE 5", () -> x.flow(5, 0, 1, 0));
            c.due("FLOW as of five", 5, () -> x.flow(4, 0, 1, 1));
        });
        c.sentence("two unlike PLACES", () -> {
            LightsMarket x = land(2);
            c.due("0 and 0", -1, () -> x.line(0, 0, 1, 1));
            c.due("1 and 1", -1, () -> x.line(1, 1, 1, 1));
            c.due("none came", 0, () -> x.count(2));
            c.due("1 and 0", 0, () -> x.line(1, 0, 1, 1));
        });
        c.sentence("stiffness (1 to 9)", () -> {
            lineOf(1, 5, 0);
            lineOf(9, 5, 0);
            for (int bad : new int[] {0, -1, 10, LOWEST, HIGHEST}) {
                lineOf(bad, 5, -1);
            }
        });
        c.sentence("most (0 to 99)", () -> {
            lineOf(5, 0, 0);
            lineOf(5, 99, 0);
            for (int bad : new int[] {-1, 100, LOWEST, HIGHEST}) {
                lineOf(5, bad, -1);
            }
        });
        c.sentence("NONE: there are 5, both are one, or a number is not as told.", () -> {
            LightsMarket x = land(2);
            c.due("both are one", -1, () -> x.line(1, 1, 1, 1));
            c.due("a number", -1, () -> x.line(0, 1, 0, 1));
            c.due("the other number", -1, () -> x.line(0, 1, 1, 100));
            c.due("and not JOINED by any of these", -1, () -> x.least(0, 0, 0));
            for (int l = 0; l < 5; l++) {
                x.line(0, 1, 1, 1);
            }
            c.due("there are 5", -1, () -> x.line(0, 1, 1, 1));
        });
        noSuchPlace();
    }

    private static void noSuchPlace() {
        c.sentence("no such PLACE (as everywhere; exceptions are ahead of answers, but where it is told)", () -> {
            LightsMarket x = land(2);
            x.line(0, 1, 1, 1);
            x.sheet(0, 4);
            x.sheet(0, -1);
            for (int bad : new int[] {-1, 2, 4, LOWEST, HIGHEST}) {
                c.missing("line from " + bad, () -> x.line(bad, 1, 1, 1));
                c.missing("line to " + bad, () -> x.line(1, bad, 1, 1));
                c.missing("line, both are one that isn't there", () -> x.line(bad, bad, 1, 1));
                c.missing("line, numbers aren't as told either", () -> x.line(bad, 1, 0, 100));
                c.missing("mill at " + bad, () -> x.mill(bad, 0, 0, 1, 1, 0, 0, 0, 0));
                c.missing("mill, numbers aren't as told either", () -> x.mill(bad, 0, 0, 8, 1, 0, 0, 0, 0));
                c.missing("day of " + bad, () -> x.day(0, bad, 0, 0));
                c.missing("day, the SHEET is MISSING as well", () -> x.day(0, bad, 1, 0));
                c.missing("flow from " + bad, () -> x.flow(0, bad, 1, 0));
                c.missing("flow to " + bad, () -> x.flow(0, 1, bad, 0));
                c.missing("price at " + bad, () -> x.price(bad, 0));
                c.missing("meter of " + bad, () -> x.meter(bad, 0, 0));
                c.missing("meter, units aren't as told either", () -> x.meter(bad, 0, 100));
                c.missing("bill of " + bad, () -> x.bill(bad, 0));
            }
        });
        c.sentence("exceptions are ahead of answers", () -> {
            LightsMarket x = land(4);
            for (int i = 0; i < 5; i++) {
                x.line(0, 1, 1, 1);
                x.mill(0, 3, 0, 1, 1, 0, 0, 0, 0);
            }
            c.missing("line when there are 5", () -> x.line(0, 4, 1, 1));
            c.missing("mill when there are 4", () -> x.mill(4, 0, 0, 1, 1, 0, 0, 0, 0));
            c.missing("kind when there are 4", () -> x.mill(0, 4, 0, 1, 1, 0, 0, 0, 0));
            c.missing("flow when PLACES aren't JOINED", () -> x.flow(0, 0, 4, 0));
            c.missing("another what when PLACES aren't JOINED", () -> x.flow(0, 0, 1, 2));
        });
    }

    private static void millOf(int want, int kind, int house, int most, int cost, int a, int b, int z, int r) {
        LightsMarket x = land(1);
        String what = "mill(0, " + kind + ", " + house + ", " + most + ", " + cost + ", " + a + ", " + b + ", " + z + ", "
                + r + ")";
        c.due(what, want, () -> x.mill(0, kind, house, most, cost, a, b, z, r));
        c.due(what + " counts", want == 0 ? 1 : 0, () -> x.count(3));
    }

    private static void mills() {
        c.sentence("MILLS, from 0 on, at most 4", () -> {
            LightsMarket x = land(1);
            for (int m = 0; m < 4; m++) {
                c.due("its number", m, () -> x.mill(0, 0, 0, 1, 1, 0, 0, 0, 0));
            }
            c.due("a fifth", -1, () -> x.mill(0, 0, 0, 1, 1, 0, 0, 0, 0));
            c.due("how many", 4, () -> x.count(3));
            c.missing("MILL 4", () -> x.units(4));
        });
        c.sentence("a HOUSE (0 to 2)", () -> {
            LightsMarket x = land(1);
            c.due("HOUSE 0", 0, () -> x.mill(0, 0, 0, 1, 1, 0, 0, 0, 0));
            c.due("HOUSE 2", 1, () -> x.mill(0, 0, 2, 1, 1, 0, 0, 0, 0));
            c.missing("HOUSE 3", () -> x.mill(0, 0, 3, 1, 1, 0, 0, 0, 0));
            c.missing("HOUSE -1", () -> x.mill(0, 0, -1, 1, 1, 0, 0, 0, 0));
            c.due("how many", 2, () -> x.count(3));
        });
        c.sentence("most (1 to 7)", () -> {
            for (int kind = 0; kind < 4; kind++) {
                millOf(0, kind, 0, 1, 5, 0, 0, 0, 0);
                millOf(0, kind, 0, 7, 5, 0, 0, 0, 0);
                for (int bad : new int[] {0, -1, 8, LOWEST, HIGHEST}) {
                    millOf(-1, kind, 0, bad, 5, 0, 0, 0, 0);
                }
            }
        });
        c.sentence("TRUE cost of a unit (0 to 999)", () -> {
            for (int kind = 0; kind < 4; kind++) {
                millOf(0, kind, 0, 5, 0, 0, 0, 0, 0);
                millOf(0, kind, 0, 5, 999, 0, 0, 0, 0);
                for (int bad : new int[] {-1, 1000, LOWEST, HIGHEST}) {
                    millOf(-1, kind, 0, 5, bad, 0, 0, 0, 0);
                }
            }
        });
        c.sentence("NoSuchElementException: also no such kind.", () -> {
            LightsMarket x = land(1);
            for (int bad : new int[] {-1, 4, LOWEST, HIGHEST}) {
                c.missing("kind " + bad, () -> x.mill(0, bad, 0, 1, 1, 0, 0, 0, 0));
                c.missing("kind " + bad + ", a number isn't as told either", () -> x.mill(0, bad, 0, 0, 1, 0, 0, 0, 0));
            }
            c.due("none came", 0, () -> x.count(3));
        });
        c.sentence("NONE: there are 4, or a number is not as told, or a second WATER.", () -> {
            LightsMarket x = land(1);
            c.due("a number", -1, () -> x.mill(0, 0, 0, 8, 1, 0, 0, 0, 0));
            c.due("WATER", 0, () -> x.mill(0, 2, 0, 1, 1, 0, 0, 0, 0));
            c.due("a second WATER", -1, () -> x.mill(0, 2, 1, 2, 2, 1, 1, 0, 0));
            c.due("WIND", 1, () -> x.mill(0, 3, 0, 1, 1, 0, 0, 0, 0));
            c.due("a second WATER still", -1, () -> x.mill(0, 2, 1, 2, 2, 1, 1, 0, 0));
            x.mill(0, 3, 0, 1, 1, 0, 0, 0, 0);
            c.due("the fourth", 3, () -> x.mill(0, 0, 0, 1, 1, 0, 0, 0, 0));
            c.due("there are 4", -1, () -> x.mill(0, 0, 0, 1, 1, 0, 0, 0, 0));
        });
    }

    private static void slowAndReady() {
        c.sentence("0 SLOW: least (0 to most)", () -> {
            for (int kind = 0; kind < 2; kind++) {
                millOf(0, kind, 0, 5, 1, 0, 0, 0, 0);
                millOf(0, kind, 0, 5, 1, 5, 0, 0, 0);
                millOf(0, kind, 0, 1, 1, 1, 0, 0, 0);
                millOf(0, kind, 0, 7, 1, 7, 0, 0, 0);
                millOf(-1, kind, 0, 5, 1, 6, 0, 0, 0);
                millOf(-1, kind, 0, 1, 1, 2, 0, 0, 0);
                millOf(-1, kind, 0, 7, 1, 8, 0, 0, 0);
                millOf(-1, kind, 0, 5, 1, -1, 0, 0, 0);
                millOf(-1, kind, 0, 5, 1, LOWEST, 0, 0, 0);
            }
        });
        c.sentence("QUARTERS to start (0 to 3)", () -> {
            for (int kind = 0; kind < 2; kind++) {
                millOf(0, kind, 0, 5, 1, 0, 0, 0, 0);
                millOf(0, kind, 0, 5, 1, 0, 3, 0, 0);
                for (int bad : new int[] {-1, 4, LOWEST, HIGHEST}) {
                    millOf(-1, kind, 0, 5, 1, 0, bad, 0, 0);
                }
            }
        });
        c.sentence("coin for a start (0 to 9999)", () -> {
            for (int kind = 0; kind < 2; kind++) {
                millOf(0, kind, 0, 5, 1, 0, 0, 9999, 0);
                for (int bad : new int[] {-1, 10000, LOWEST, HIGHEST}) {
                    millOf(-1, kind, 0, 5, 1, 0, 0, bad, 0);
                }
            }
        });
        c.sentence("1 READY: likewise, and coin (0 to 999) for each QUARTER in which it isn't ON", () -> {
            millOf(0, 1, 0, 5, 1, 0, 0, 0, 0);
            millOf(0, 1, 0, 5, 1, 0, 0, 0, 999);
            for (int bad : new int[] {-1, 1000, LOWEST, HIGHEST}) {
                millOf(-1, 1, 0, 5, 1, 0, 0, 0, bad);
            }
        });
        c.sentence("r coin for waiting (0 if SLOW)", () -> {
            millOf(0, 0, 0, 5, 1, 0, 0, 0, 0);
            for (int bad : new int[] {-1, 1, 999, LOWEST, HIGHEST}) {
                millOf(-1, 0, 0, 5, 1, 0, 0, 0, bad);
            }
        });
    }

    private static void waterAndWind() {
        c.sentence("2 WATER (one at most)", () -> {
            LightsMarket x = land(2);
            c.due("one", 0, () -> x.mill(0, 2, 0, 3, 1, 0, 0, 0, 0));
            c.due("a second one elsewhere", -1, () -> x.mill(1, 2, 2, 4, 1, 9, 0, 0, 0));
            c.due("how many", 1, () -> x.count(3));
        });
        c.sentence("its lake at first (0 to 15)", () -> {
            millOf(0, 2, 0, 1, 1, 0, 0, 0, 0);
            millOf(0, 2, 0, 1, 1, 15, 0, 0, 0);
            for (int bad : new int[] {-1, 16, LOWEST, HIGHEST}) {
                millOf(-1, 2, 0, 1, 1, bad, 0, 0, 0);
            }
        });
        c.sentence("its stream in each QUARTER (0 to 7)", () -> {
            millOf(0, 2, 0, 1, 1, 0, 0, 0, 0);
            millOf(0, 2, 0, 1, 1, 0, 7, 0, 0);
            for (int bad : new int[] {-1, 8, LOWEST, HIGHEST}) {
                millOf(-1, 2, 0, 1, 1, 0, bad, 0, 0);
            }
        });
        c.sentence("what isn't asked of must be 0", () -> {
            for (int bad : new int[] {-1, 1, LOWEST, HIGHEST}) {
                millOf(-1, 2, 0, 1, 1, 0, 0, bad, 0);
                millOf(-1, 2, 0, 1, 1, 0, 0, 0, bad);
                millOf(-1, 3, 0, 1, 1, bad, 0, 0, 0);
                millOf(-1, 3, 0, 1, 1, 0, bad, 0, 0);
                millOf(-1, 3, 0, 1, 1, 0, 0, bad, 0);
                millOf(-1, 3, 0, 1, 1, 0, 0, 0, bad);
            }
            millOf(0, 3, 2, 7, 999, 0, 0, 0, 0);
            millOf(0, 2, 2, 7, 999, 15, 7, 0, 0);
        });
    }

    private static void quarters() {
        c.sentence("QUARTERS 0 to 3", () -> {
            LightsMarket x = land(1);
            x.mill(0, 3, 0, 7, 5, 0, 0, 0, 0);
            x.plan(4, 0);
            for (int q : new int[] {0, 3}) {
                c.due("asked in " + q, 5, () -> x.asked(0, 1, q));
                c.due("least in " + q, 0, () -> x.least(q, 0, 0));
                c.due("planned in " + q, 0, () -> x.planned(q, 0));
                c.due("price in " + q, -1, () -> x.price(0, q));
                c.due("game in " + q, 1, () -> x.game(q));
                c.no("alone in " + q, () -> x.alone(0, q));
                c.yes("night in " + q, () -> x.night(q, 0, 1, 0));
                c.due("way in " + q, -1, () -> x.way(q));
                c.due("meter in " + q, q == 0 ? 1 : 2, () -> x.meter(0, q, 0));
            }
        });
        c.sentence("also no such QUARTER (as everywhere)", () -> {
            LightsMarket x = land(1);
            x.mill(0, 3, 0, 7, 5, 0, 0, 0, 0);
            x.plan(4, 0);
            for (int bad : new int[] {-1, 4, LOWEST, HIGHEST}) {
                c.missing("asked in " + bad, () -> x.asked(0, 1, bad));
                c.missing("least in " + bad, () -> x.least(bad, 0, 0));
                c.missing("planned in " + bad, () -> x.planned(bad, 0));
                c.missing("price in " + bad, () -> x.price(0, bad));
                c.missing("game in " + bad, () -> x.game(bad));
                c.missing("alone in " + bad, () -> x.alone(0, bad) ? 1 : 0);
                c.missing("night in " + bad, () -> x.night(bad, 0, 1, 0) ? 1 : 0);
                c.missing("way in " + bad, () -> x.way(bad));
                c.missing("meter in " + bad, () -> x.meter(0, bad, 0));
            }
        });
    }

    private static void loadsAndComes() {
        c.sentence("of each PLACE and QUARTER a LOAD (0 to 9)", () -> {
            LightsMarket x = land(1);
            x.sheet(0, 4);
            c.due("0 and 9", 0, () -> Setup.loads(x, 0, 0, 0, 9, 0, 9));
            for (int q = 0; q < 4; q++) {
                for (int bad : new int[] {-1, 10, LOWEST, HIGHEST}) {
                    x.write(0, 0, 1);
                    x.write(0, 1, 1);
                    x.write(0, 2, 1);
                    x.write(0, 3, 1);
                    x.write(0, q, bad);
                    c.due("LOAD of " + bad, 4, () -> x.day(0, 0, 0, 0));
                }
            }
        });
        c.sentence("of each WIND and QUARTER what COMES (0 to 7)", () -> {
            LightsMarket x = land(1);
            x.mill(0, 3, 0, 1, 1, 0, 0, 0, 0);
            x.sheet(0, 4);
            c.due("0 and 7, above its most", 0, () -> Setup.comes(x, 0, 0, 0, 7, 0, 7));
            for (int q = 0; q < 4; q++) {
                for (int bad : new int[] {-1, 8, LOWEST, HIGHEST}) {
                    x.write(0, 0, 1);
                    x.write(0, 1, 1);
                    x.write(0, 2, 1);
                    x.write(0, 3, 1);
                    x.write(0, q, bad);
                    c.due("COMES " + bad, 4, () -> x.day(1, 0, 0, 0));
                }
            }
        });
        c.sentence("0 at first", () -> {
            LightsMarket x = land(1);
            x.mill(0, 0, 0, 7, 9, 0, 0, 0, 0);
            x.mill(0, 3, 0, 7, 1, 0, 0, 0, 0);
            for (int q = 0; q < 4; q++) {
                int quarter = q;
                c.due("LOAD", 0, () -> x.least(quarter, 1, 0));
            }
            x.sheet(0, 4);
            Setup.loads(x, 0, 0, 2, 2, 2, 2);
            for (int q = 0; q < 4; q++) {
                int quarter = q;
                c.due("COMES", 18, () -> x.least(quarter, 1, 0));
            }
        });
    }

    private static void sheets() {
        c.sentence("SHEETS, from 0 on, at most 12", () -> {
            LightsMarket x = new LightsMarket();
            for (int s = 0; s < 12; s++) {
                int sort = s % 3;
                int size = s == 5 ? -1 : s;
                c.due("its number", s, () -> x.sheet(sort, size));
            }
            c.due("a thirteenth", -1, () -> x.sheet(0, 1));
            c.due("a thirteenth that is MISSING", -1, () -> x.sheet(0, -1));
            c.due("how many", 12, () -> x.count(4));
            c.missing("SHEET 12", () -> x.write(12, 0, 0));
        });
        c.sentence("rows of a size (0 to 12)", () -> {
            LightsMarket x = new LightsMarket();
            for (int size = 0; size <= 12; size += 4) {
                int n = size;
                int s = size / 4;
                c.due("size " + size, s, () -> x.sheet(0, n));
                c.due("its last place", n == 0 ? 3 : 0, () -> x.write(s, n - 1, 7));
                c.due("the place behind", 3, () -> x.write(s, n, 7));
            }
        });
        c.sentence("of ints, longs or shorts (sorts 0 to 2)", () -> {
            LightsMarket x = new LightsMarket();
            c.due("ints", 0, () -> x.sheet(0, 1));
            c.due("longs", 1, () -> x.sheet(1, 1));
            c.due("shorts", 2, () -> x.sheet(2, 1));
            c.due("an int of 40000", 0, () -> x.write(0, 0, 40000));
            c.due("a long of 40000", 0, () -> x.write(1, 0, 40000));
            c.due("a short of 40000", 4, () -> x.write(2, 0, 40000));
            c.due("ints aren't longs", 2, () -> x.copy(0, 0, 1, 0, 1));
            c.due("longs aren't shorts", 2, () -> x.copy(1, 0, 2, 0, 1));
            c.due("shorts aren't ints", 2, () -> x.copy(2, 0, 0, 0, 1));
        });
        c.sentence("all 0 at first, or MISSING ones", () -> {
            LightsMarket x = land(1);
            x.mill(0, 0, 0, 7, 1, 0, 0, 0, 0);
            x.sheet(0, 4);
            Setup.loads(x, 0, 0, 3, 3, 3, 3);
            c.due("LOADS of 3", 3, () -> x.least(0, 1, 0));
            x.sheet(0, 12);
            for (int at = 0; at <= 8; at += 4) {
                int part = at;
                Setup.loads(x, 0, 0, 3, 3, 3, 3);
                c.due("day of a new SHEET", 0, () -> x.day(0, 0, 1, part));
                for (int q = 0; q < 4; q++) {
                    int quarter = q;
                    c.due("LOADS of 0", 0, () -> x.least(quarter, 1, 0));
                }
            }
            x.sheet(0, -1);
            c.due("MISSING", 1, () -> x.day(0, 0, 2, 0));
        });
        c.sentence("NONE: there are 12, or no such sort; -2: the size is below -1, or above 12.", () -> {
            LightsMarket x = new LightsMarket();
            for (int bad : new int[] {-1, 3, LOWEST, HIGHEST}) {
                c.due("sort " + bad, -1, () -> x.sheet(bad, 4));
                c.due("sort " + bad + ", no such size", -1, () -> x.sheet(bad, 13));
            }
            for (int bad : new int[] {-2, 13, LOWEST, HIGHEST}) {
                c.due("size " + bad, -2, () -> x.sheet(2, bad));
            }
            c.due("none came", 0, () -> x.count(4));
            c.due("size -1", 0, () -> x.sheet(0, -1));
            c.due("size 12", 1, () -> x.sheet(0, 12));
            for (int i = 2; i < 12; i++) {
                x.sheet(0, 0);
            }
            c.due("there are 12", -1, () -> x.sheet(0, 4));
            c.due("there are 12, and no such size", -1, () -> x.sheet(0, 13));
        });
        c.sentence("of a size (-1: MISSING)", () -> {
            LightsMarket x = land(1);
            c.due("its number", 0, () -> x.sheet(1, -1));
            c.due("it counts", 1, () -> x.count(4));
            c.due("write", 1, () -> x.write(0, 0, 0));
            c.due("copy", 1, () -> x.copy(0, 0, 0, 0, 0));
            c.due("day", 1, () -> x.day(0, 0, 0, 0));
        });
    }

    /** SHEETS: 0 and 1 ints, 2 longs, 3 shorts (each of 4), 4 and 5 MISSING ints and shorts. */
    private static LightsMarket withSheets() {
        LightsMarket x = land(1);
        x.sheet(0, 4);
        x.sheet(0, 4);
        x.sheet(1, 4);
        x.sheet(2, 4);
        x.sheet(0, -1);
        x.sheet(2, -1);
        return x;
    }

    private static void wantedOfSheets() {
        c.sentence("0 right; 1 it is MISSING; 2 it is of another sort; 3 a place or a part that it hasn't;"
                + " 4 a number out of bounds", () -> {
            LightsMarket x = withSheets();
            c.due("right", 0, () -> x.write(0, 0, 1));
            c.due("MISSING", 1, () -> x.write(4, 0, 1));
            c.due("of another sort", 2, () -> x.copy(0, 0, 2, 0, 1));
            c.due("a place", 3, () -> x.write(0, 4, 1));
            c.due("a part", 3, () -> x.copy(0, 0, 1, 2, 3));
            c.due("out of bounds", 4, () -> x.write(3, 0, 32768));
        });
        c.sentence("the least of these that is so", () -> {
            LightsMarket x = withSheets();
            c.due("1 of 1, 3, 4", 1, () -> x.write(5, 99, 99999));
            c.due("3 of 3, 4", 3, () -> x.write(3, 4, 99999));
            c.due("1 of 1, 2", 1, () -> x.copy(4, 0, 2, 0, 1));
            c.due("1 of 1, 2, the other way", 1, () -> x.copy(2, 0, 4, 0, 1));
            c.due("1 of 1, 3", 1, () -> x.copy(0, 9, 4, 0, 1));
            c.due("2 of 2, 3", 2, () -> x.copy(0, 9, 2, 0, 1));
            c.due("1 of 1, 3 for a day", 1, () -> x.day(0, 0, 4, 99));
            x.write(0, 3, 10);
            c.due("3 of 3, 4 for a day", 3, () -> x.day(0, 0, 0, 1));
            c.due("4 for a day", 4, () -> x.day(0, 0, 0, 0));
        });
    }

    private static void write() {
        c.sentence("0, or why not (1, 3; a short: 4, if v is none)", () -> {
            LightsMarket x = withSheets();
            for (int good : new int[] {0, -1, 32767, -32768}) {
                c.due("a short of " + good, 0, () -> x.write(3, 3, good));
            }
            for (int bad : new int[] {32768, -32769, 65536, LOWEST, HIGHEST}) {
                c.due("a short of " + bad, 4, () -> x.write(3, 3, bad));
                c.due("an int of " + bad, 0, () -> x.write(0, 3, bad));
                c.due("a long of " + bad, 0, () -> x.write(2, 3, bad));
            }
            for (int bad : new int[] {-1, 4, LOWEST, HIGHEST}) {
                c.due("place " + bad, 3, () -> x.write(3, bad, 0));
            }
            c.due("a MISSING one", 1, () -> x.write(5, 0, 0));
        });
        c.sentence("NoSuchElementException: no such SHEET (as everywhere).", () -> {
            LightsMarket x = withSheets();
            for (int bad : new int[] {-1, 6, 12, LOWEST, HIGHEST}) {
                c.missing("write on " + bad, () -> x.write(bad, 0, 0));
                c.missing("write on " + bad + ", no such place either", () -> x.write(bad, -1, 0));
                c.missing("copy from " + bad, () -> x.copy(bad, 0, 0, 0, 1));
                c.missing("copy to " + bad, () -> x.copy(0, 0, bad, 0, 1));
                c.missing("copy from " + bad + " to a MISSING one", () -> x.copy(bad, 0, 4, 0, 1));
                c.missing("day from " + bad, () -> x.day(0, 0, bad, 0));
            }
        });
        c.sentence("A place of a SHEET is v: 0, or why not", () -> {
            LightsMarket x = withSheets();
            x.mill(0, 0, 0, 7, 1, 0, 0, 0, 0);
            x.write(3, 0, 5);
            x.write(3, 0, 32768);
            c.due("day", 0, () -> x.day(0, 0, 3, 0));
            c.due("LOAD of 5", 5, () -> x.least(0, 1, 0));
        });
    }

    /** LOADS in QUARTERS 0 to 3, by what a MILL at 1 makes. */
    private static void loadsAre(LightsMarket x, int sheet, int at, int... want) {
        c.due("day", 0, () -> x.day(0, 0, sheet, at));
        for (int q = 0; q < 4; q++) {
            int quarter = q;
            c.due("LOAD in " + q, want[q], () -> x.least(quarter, 1, 0));
        }
    }

    private static LightsMarket withNumbers() {
        LightsMarket x = withSheets();
        x.mill(0, 0, 0, 7, 1, 0, 0, 0, 0);
        x.sheet(0, 8);
        for (int i = 0; i < 8; i++) {
            x.write(6, i, i);
        }
        return x;
    }

    private static void copy() {
        c.sentence("A part of one SHEET, n places from one on, is laid into another one", () -> {
            LightsMarket x = withNumbers();
            c.due("2 of 4", 0, () -> x.copy(6, 4, 0, 1, 2));
            loadsAre(x, 0, 0, 0, 4, 5, 0);
            c.due("all 4", 0, () -> x.copy(6, 1, 0, 0, 4));
            loadsAre(x, 0, 0, 1, 2, 3, 4);
            c.due("none", 0, () -> x.copy(6, 1, 0, 2, 0));
            loadsAre(x, 0, 0, 1, 2, 3, 4);
            loadsAre(x, 6, 4, 4, 5, 6, 7);
        });
        c.sentence("(or the same)", () -> {
            LightsMarket x = withNumbers();
            c.due("upward over itself", 0, () -> x.copy(6, 0, 6, 2, 6));
            loadsAre(x, 6, 0, 0, 1, 0, 1);
            loadsAre(x, 6, 4, 2, 3, 4, 5);
            LightsMarket y = withNumbers();
            c.due("downward over itself", 0, () -> y.copy(6, 2, 6, 0, 6));
            loadsAre(y, 6, 0, 2, 3, 4, 5);
            loadsAre(y, 6, 4, 6, 7, 6, 7);
            c.due("onto itself", 0, () -> y.copy(6, 0, 6, 0, 8));
            loadsAre(y, 6, 0, 2, 3, 4, 5);
        });
        c.sentence("0, or why not (1, 2, 3; one of both; nothing changes then)", () -> {
            LightsMarket x = withNumbers();
            x.copy(6, 1, 0, 0, 4);
            c.due("the first is MISSING", 1, () -> x.copy(4, 0, 0, 0, 1));
            c.due("the second is MISSING", 1, () -> x.copy(0, 0, 4, 0, 1));
            c.due("both are", 1, () -> x.copy(4, 0, 4, 0, 1));
            c.due("another sort", 2, () -> x.copy(2, 0, 0, 0, 4));
            c.due("not in the first", 3, () -> x.copy(6, 5, 0, 0, 4));
            c.due("not in the second", 3, () -> x.copy(6, 4, 0, 1, 4));
            c.due("of neither", 3, () -> x.copy(6, 8, 0, 4, 1));
            for (int bad : new int[] {-1, LOWEST, HIGHEST}) {
                c.due("from " + bad, 3, () -> x.copy(6, bad, 0, 0, 1));
                c.due("on " + bad, 3, () -> x.copy(6, 0, 0, bad, 1));
                c.due("n " + bad, 3, () -> x.copy(6, 1, 0, 1, bad));
                c.due("all of " + bad, 3, () -> x.copy(6, bad, 0, bad, bad));
            }
            loadsAre(x, 0, 0, 1, 2, 3, 4);
        });
        c.sentence("3 a place or a part that it hasn't", () -> {
            LightsMarket x = withNumbers();
            c.due("at both ends", 0, () -> x.copy(6, 8, 0, 4, 0));
            c.due("behind the first's", 3, () -> x.copy(6, 9, 0, 4, 0));
            c.due("behind the second's", 3, () -> x.copy(6, 8, 0, 5, 0));
        });
    }

    private static void day() {
        c.sentence("for QUARTERS 0 to 3, are those of a SHEET from a place on", () -> {
            LightsMarket x = withNumbers();
            loadsAre(x, 6, 0, 0, 1, 2, 3);
            loadsAre(x, 6, 4, 4, 5, 6, 7);
        });
        c.sentence("0, or why not (1, 3, 4; nothing changes then)", () -> {
            LightsMarket x = withNumbers();
            x.day(0, 0, 6, 1);
            c.due("MISSING", 1, () -> x.day(0, 0, 4, 0));
            for (int bad : new int[] {5, 8, -1, LOWEST, HIGHEST}) {
                c.due("from " + bad, 3, () -> x.day(0, 0, 6, bad));
            }
            x.write(0, 0, 7);
            x.write(0, 3, 10);
            c.due("a number", 4, () -> x.day(0, 0, 0, 0));
            int[] want = {1, 2, 3, 4};
            for (int q = 0; q < 4; q++) {
                int quarter = q;
                c.due("LOAD in " + q, want[q], () -> x.least(quarter, 1, 0));
            }
        });
        c.sentence("NoSuchElementException: also another what, no such PLACE, MILL, or it is no WIND.", () -> {
            LightsMarket x = withNumbers();
            x.mill(0, 1, 0, 7, 1, 0, 0, 0, 0);
            x.mill(0, 2, 0, 7, 1, 0, 0, 0, 0);
            x.mill(0, 3, 0, 7, 1, 0, 0, 0, 0);
            for (int bad : new int[] {-1, 2, LOWEST, HIGHEST}) {
                c.missing("what " + bad, () -> x.day(bad, 0, 6, 0));
            }
            c.missing("PLACE 1", () -> x.day(0, 1, 6, 0));
            c.missing("PLACE -1", () -> x.day(0, -1, 6, 0));
            c.missing("MILL 4", () -> x.day(1, 4, 6, 0));
            c.missing("MILL -1", () -> x.day(1, -1, 6, 0));
            c.missing("SLOW", () -> x.day(1, 0, 6, 0));
            c.missing("READY", () -> x.day(1, 1, 6, 0));
            c.missing("WATER", () -> x.day(1, 2, 6, 0));
            c.missing("SLOW, of a MISSING SHEET", () -> x.day(1, 0, 4, 0));
            c.due("WIND", 0, () -> x.day(1, 3, 6, 0));
        });
    }
}
