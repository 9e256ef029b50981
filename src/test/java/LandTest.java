/** Promises 1 to 8, and what count (34) tells of them. */
public final class LandTest {
    private static final Check c = new Check("LandTest");

    public static void main(String[] args) {
        constants();
        newObject();
        places();
        lines();
        millNumbers();
        millBounds();
        millKinds();
        sheets();
        writes();
        copies();
        days();
        counts();
        c.end();
    }

    private static void constants() {
        c.same("NONE", -1, LightsMarket.NONE);
    }

    private static void newObject() {
        LightsMarket x = new LightsMarket();
        for (int what = 0; what <= 7; what++) {
            int w = what;
            c.due("count(" + what + ") of a new object", 0, () -> x.count(w));
        }
        c.due("evenings(0) of a new object", 0, () -> x.evenings(0));
        c.due("fault of a new object", -1, x::fault);
        c.missing("a place of a new object", () -> x.price(0, 0));
        c.missing("a line of a new object", () -> x.flow(0, 0, 0, 0));
        c.missing("a mill of a new object", () -> x.units(0));
        c.missing("a sheet of a new object", () -> x.write(0, 0, 0));
        LightsMarket y = new LightsMarket();
        y.place();
        c.due("objects are apart", 0, () -> x.count(1));
    }

    private static void places() {
        LightsMarket x = new LightsMarket();
        for (int i = 0; i < 4; i++) {
            c.due("place", i, x::place);
        }
        c.due("fifth place", -1, x::place);
        c.due("sixth place", -1, x::place);
        c.due("places", 4, () -> x.count(1));
    }

    private static void lines() {
        LightsMarket x = new LightsMarket();
        Setup.places(x, 2);
        c.missing("line to no place", () -> x.line(0, 2, 1, 1));
        c.missing("line from no place", () -> x.line(2, 0, 1, 1));
        c.missing("line from below", () -> x.line(-1, 0, 1, 1));
        c.missing("line to below", () -> x.line(0, -1, 1, 1));
        c.missing("no place is ahead of bad numbers", () -> x.line(0, 2, 0, 100));
        c.due("line from itself", -1, () -> x.line(1, 1, 1, 1));
        c.due("stiffness 0", -1, () -> x.line(0, 1, 0, 1));
        c.due("stiffness 10", -1, () -> x.line(0, 1, 10, 1));
        c.due("most -1", -1, () -> x.line(0, 1, 1, -1));
        c.due("most 100", -1, () -> x.line(0, 1, 1, 100));
        c.due("no line yet", 0, () -> x.count(2));
        c.due("least numbers", 0, () -> x.line(0, 1, 1, 0));
        c.due("most numbers", 1, () -> x.line(1, 0, 9, 99));
        c.due("third", 2, () -> x.line(0, 1, 5, 50));
        c.due("fourth", 3, () -> x.line(0, 1, 5, 50));
        c.due("fifth", 4, () -> x.line(0, 1, 5, 50));
        c.due("sixth", -1, () -> x.line(0, 1, 5, 50));
        c.missing("no place is ahead of too many", () -> x.line(0, 2, 5, 50));
        c.due("lines", 5, () -> x.count(2));
    }

    private static void millNumbers() {
        LightsMarket x = new LightsMarket();
        c.missing("mill without a place", () -> x.mill(0, 0, 0, 1, 0, 0, 0, 0, 0));
        x.place();
        c.missing("place -1", () -> x.mill(-1, 0, 0, 1, 0, 0, 0, 0, 0));
        c.missing("place 1", () -> x.mill(1, 0, 0, 1, 0, 0, 0, 0, 0));
        c.missing("kind 4", () -> x.mill(0, 4, 0, 1, 0, 0, 0, 0, 0));
        c.missing("kind -1", () -> x.mill(0, -1, 0, 1, 0, 0, 0, 0, 0));
        c.missing("house 3", () -> x.mill(0, 0, 3, 1, 0, 0, 0, 0, 0));
        c.missing("house -1", () -> x.mill(0, 0, -1, 1, 0, 0, 0, 0, 0));
        c.missing("kind ahead of numbers", () -> x.mill(0, 4, 0, 99, 0, 0, 0, 0, 0));
        c.due("mill 0", 0, () -> x.mill(0, 0, 0, 1, 0, 0, 0, 0, 0));
        c.due("mill 1", 1, () -> x.mill(0, 1, 1, 7, 999, 7, 3, 9999, 999));
        c.due("mill 2", 2, () -> x.mill(0, 2, 2, 7, 999, 15, 7, 0, 0));
        c.due("second water", -1, () -> x.mill(0, 2, 2, 7, 999, 15, 7, 0, 0));
        c.due("mill 3", 3, () -> x.mill(0, 3, 2, 7, 999, 0, 0, 0, 0));
        c.due("mill 4", -1, () -> x.mill(0, 3, 2, 7, 999, 0, 0, 0, 0));
        c.missing("kind ahead of too many", () -> x.mill(0, 9, 2, 7, 999, 0, 0, 0, 0));
        c.due("mills", 4, () -> x.count(3));
    }

    /** All of these are not as told, so that none comes. */
    private static void millBounds() {
        LightsMarket x = new LightsMarket();
        x.place();
        int[][] bad = {
            {0, 0, 0, 0, 0, 0, 0}, {0, 8, 0, 0, 0, 0, 0}, {0, 5, -1, 0, 0, 0, 0}, {0, 5, 1000, 0, 0, 0, 0},
            {0, 5, 0, -1, 0, 0, 0}, {0, 5, 0, 6, 0, 0, 0}, {0, 5, 0, 0, -1, 0, 0}, {0, 5, 0, 0, 4, 0, 0},
            {0, 5, 0, 0, 0, -1, 0}, {0, 5, 0, 0, 0, 10000, 0}, {0, 5, 0, 0, 0, 0, 1}, {0, 5, 0, 0, 0, 0, -1},
            {1, 0, 0, 0, 0, 0, 0}, {1, 8, 0, 0, 0, 0, 0}, {1, 5, 0, 6, 0, 0, 0}, {1, 5, 0, -1, 0, 0, 0},
            {1, 5, 0, 0, 4, 0, 0}, {1, 5, 0, 0, -1, 0, 0}, {1, 5, 0, 0, 0, 10000, 0}, {1, 5, 0, 0, 0, -1, 0},
            {1, 5, 0, 0, 0, 0, 1000}, {1, 5, 0, 0, 0, 0, -1},
            {2, 0, 0, 0, 0, 0, 0}, {2, 8, 0, 0, 0, 0, 0}, {2, 5, 0, 16, 0, 0, 0}, {2, 5, 0, -1, 0, 0, 0},
            {2, 5, 0, 0, 8, 0, 0}, {2, 5, 0, 0, -1, 0, 0}, {2, 5, 0, 0, 0, 1, 0}, {2, 5, 0, 0, 0, 0, 1},
            {2, 5, 0, 0, 0, -1, 0}, {2, 5, 0, 0, 0, 0, -1}, {2, 5, 1000, 0, 0, 0, 0},
            {3, 0, 0, 0, 0, 0, 0}, {3, 8, 0, 0, 0, 0, 0}, {3, 5, -1, 0, 0, 0, 0}, {3, 5, 0, 1, 0, 0, 0},
            {3, 5, 0, 0, 1, 0, 0}, {3, 5, 0, 0, 0, 1, 0}, {3, 5, 0, 0, 0, 0, 1}, {3, 5, 0, -1, 0, 0, 0},
        };
        for (int i = 0; i < bad.length; i++) {
            int[] b = bad[i];
            c.due("bad mill " + i, -1, () -> x.mill(0, b[0], 0, b[1], b[2], b[3], b[4], b[5], b[6]));
        }
        c.due("none came", 0, () -> x.count(3));
    }

    private static void millKinds() {
        int[][] good = {
            {0, 1, 0, 1, 0, 0, 0}, {0, 7, 999, 7, 3, 9999, 0}, {0, 5, 0, 5, 0, 0, 0},
            {1, 1, 0, 0, 0, 0, 0}, {1, 7, 999, 7, 3, 9999, 999},
            {2, 1, 0, 0, 0, 0, 0}, {2, 7, 999, 15, 7, 0, 0}, {2, 1, 0, 15, 7, 0, 0},
            {3, 1, 0, 0, 0, 0, 0}, {3, 7, 999, 0, 0, 0, 0},
        };
        for (int i = 0; i < good.length; i++) {
            LightsMarket x = new LightsMarket();
            x.place();
            int[] g = good[i];
            int house = i % 3;
            c.due("good mill " + i, 0, () -> x.mill(0, g[0], house, g[1], g[2], g[3], g[4], g[5], g[6]));
        }
    }

    private static void sheets() {
        LightsMarket x = new LightsMarket();
        c.due("sort -1", -1, () -> x.sheet(-1, 4));
        c.due("sort 3", -1, () -> x.sheet(3, 4));
        c.due("bad sort is ahead of size", -1, () -> x.sheet(3, 13));
        c.due("size -2", -2, () -> x.sheet(0, -2));
        c.due("size 13", -2, () -> x.sheet(2, 13));
        c.due("none came", 0, () -> x.count(4));
        c.due("ints", 0, () -> x.sheet(0, 0));
        c.due("longs", 1, () -> x.sheet(1, 12));
        c.due("shorts", 2, () -> x.sheet(2, -1));
        for (int i = 3; i < 12; i++) {
            c.due("sheet", i, () -> x.sheet(0, 1));
        }
        c.due("thirteenth", -1, () -> x.sheet(0, 1));
        c.due("thirteenth of a bad size", -1, () -> x.sheet(0, 13));
        c.due("sheets", 12, () -> x.count(4));
    }

    private static void writes() {
        LightsMarket x = new LightsMarket();
        x.sheet(0, 2);
        x.sheet(1, 1);
        x.sheet(2, 12);
        x.sheet(2, -1);
        x.sheet(0, 0);
        c.missing("no such sheet", () -> x.write(5, 0, 0));
        c.missing("sheet -1", () -> x.write(-1, 0, 0));
        c.due("int", 0, () -> x.write(0, 0, Integer.MAX_VALUE));
        c.due("int below", 0, () -> x.write(0, 1, Integer.MIN_VALUE));
        c.due("behind its end", 3, () -> x.write(0, 2, 0));
        c.due("ahead of it", 3, () -> x.write(0, -1, 0));
        c.due("long", 0, () -> x.write(1, 0, 70000));
        c.due("behind a long's end", 3, () -> x.write(1, 1, 0));
        c.due("short 32767", 0, () -> x.write(2, 0, 32767));
        c.due("short -32768", 0, () -> x.write(2, 11, -32768));
        c.due("short 32768", 4, () -> x.write(2, 0, 32768));
        c.due("short -32769", 4, () -> x.write(2, 0, -32769));
        c.due("place ahead of bounds", 3, () -> x.write(2, 12, 32768));
        c.due("missing ahead of all", 1, () -> x.write(3, 99, 99999));
        c.due("empty", 3, () -> x.write(4, 0, 0));
        c.due("far off", 3, () -> x.write(0, Integer.MAX_VALUE, 0));
        c.due("far below", 3, () -> x.write(0, Integer.MIN_VALUE, 0));
    }

    private static void copies() {
        LightsMarket x = new LightsMarket();
        x.sheet(0, 6);
        x.sheet(0, 4);
        x.sheet(1, 6);
        x.sheet(0, -1);
        x.sheet(2, -1);
        c.missing("from none", () -> x.copy(5, 0, 0, 0, 1));
        c.missing("to none", () -> x.copy(0, 0, 5, 0, 1));
        c.missing("from -1", () -> x.copy(-1, 0, 0, 0, 1));
        c.missing("to -1", () -> x.copy(0, 0, -1, 0, 1));
        c.due("from a missing one", 1, () -> x.copy(3, 0, 0, 0, 1));
        c.due("to a missing one", 1, () -> x.copy(0, 0, 3, 0, 1));
        c.due("missing ahead of sort and part", 1, () -> x.copy(2, 99, 3, 0, 1));
        c.due("missing both", 1, () -> x.copy(3, 0, 4, 0, 0));
        c.due("other sort", 2, () -> x.copy(0, 0, 2, 0, 1));
        c.due("other sort ahead of part", 2, () -> x.copy(0, 0, 2, 0, 99));
        c.due("no places at all", 0, () -> x.copy(0, 6, 1, 4, 0));
        c.due("none behind the end", 3, () -> x.copy(0, 7, 1, 0, 0));
        c.due("none behind the other end", 3, () -> x.copy(0, 0, 1, 5, 0));
        c.due("n below 0", 3, () -> x.copy(0, 1, 1, 1, -1));
        c.due("at below 0", 3, () -> x.copy(0, -1, 1, 1, 1));
        c.due("on below 0", 3, () -> x.copy(0, 1, 1, -1, 1));
        c.due("too long for from", 3, () -> x.copy(1, 1, 0, 0, 4));
        c.due("too long for to", 3, () -> x.copy(0, 0, 1, 1, 4));
        c.due("just so long", 0, () -> x.copy(0, 2, 1, 0, 4));
        c.due("far", 3, () -> x.copy(0, Integer.MAX_VALUE, 1, 0, 1));
        c.due("far on", 3, () -> x.copy(0, 0, 1, Integer.MAX_VALUE, 1));
        c.due("far n", 3, () -> x.copy(0, 1, 1, 1, Integer.MAX_VALUE));
        copiesNumbers();
    }

    private static void copiesNumbers() {
        LightsMarket x = new LightsMarket();
        x.place();
        x.mill(0, 2, 0, 7, 0, 15, 0, 0, 0);
        x.sheet(0, 6);
        x.sheet(0, 4);
        for (int i = 0; i < 6; i++) {
            x.write(0, i, i + 1);
        }
        x.copy(0, 2, 1, 0, 4);
        seesLoads(x, 1, 0, "a part of another", 3, 4, 5, 6);
        x.copy(0, 0, 0, 1, 5);
        seesLoads(x, 0, 0, "onto itself, upward", 1, 1, 2, 3);
        seesLoads(x, 0, 2, "onto itself, upward, behind", 2, 3, 4, 5);
        x.copy(0, 2, 0, 0, 4);
        seesLoads(x, 0, 0, "onto itself, downward", 2, 3, 4, 5);
        c.due("a part that isn't there", 3, () -> x.copy(0, 0, 1, 1, 4));
        seesLoads(x, 1, 0, "nothing changed", 3, 4, 5, 6);
    }

    /** The WATER alone meets the LOADS, so that least tells whether w is what the LOAD is. */
    private static void seesLoads(LightsMarket x, int sheet, int at, String what, int... want) {
        c.due(what + ": day", 0, () -> x.day(0, 0, sheet, at));
        for (int q = 0; q < 4; q++) {
            int quarter = q;
            c.due(what + ": LOAD of " + q, 0, () -> x.least(quarter, 0, want[quarter]));
            c.due(what + ": LOAD of " + q + " and no more", -1, () -> x.least(quarter, 0, want[quarter] - 1));
        }
    }

    private static void days() {
        LightsMarket x = new LightsMarket();
        Setup.places(x, 2);
        x.mill(0, 3, 0, 7, 0, 0, 0, 0, 0);
        x.mill(0, 0, 0, 7, 0, 0, 0, 0, 0);
        x.sheet(0, 5);
        x.sheet(2, -1);
        x.sheet(1, 3);
        c.missing("what 2", () -> x.day(2, 0, 0, 0));
        c.missing("what -1", () -> x.day(-1, 0, 0, 0));
        c.missing("no such place", () -> x.day(0, 2, 0, 0));
        c.missing("place -1", () -> x.day(0, -1, 0, 0));
        c.missing("no such mill", () -> x.day(1, 2, 0, 0));
        c.missing("mill -1", () -> x.day(1, -1, 0, 0));
        c.missing("no wind", () -> x.day(1, 1, 0, 0));
        c.missing("no such sheet", () -> x.day(0, 0, 3, 0));
        c.missing("sheet -1", () -> x.day(1, 0, -1, 0));
        c.missing("no place is ahead of a missing sheet", () -> x.day(0, 2, 1, 0));
        c.due("missing", 1, () -> x.day(0, 0, 1, 99));
        c.due("too short", 3, () -> x.day(0, 0, 2, 0));
        c.due("at 1 of 5", 0, () -> x.day(0, 0, 0, 1));
        c.due("at 2 of 5", 3, () -> x.day(0, 0, 0, 2));
        c.due("at -1", 3, () -> x.day(0, 0, 0, -1));
        c.due("far off", 3, () -> x.day(0, 0, 0, Integer.MAX_VALUE));
        dayBounds(x);
    }

    private static void dayBounds(LightsMarket x) {
        c.due("LOADS 9", 0, () -> Setup.loads(x, 0, 0, 9, 9, 9, 9));
        c.due("LOADS 10", 4, () -> Setup.loads(x, 0, 0, 0, 0, 0, 10));
        c.due("LOADS -1", 4, () -> Setup.loads(x, 0, 0, -1, 0, 0, 0));
        c.due("COMES 7", 0, () -> Setup.comes(x, 0, 0, 7, 7, 7, 7));
        c.due("COMES 8", 4, () -> Setup.comes(x, 0, 0, 0, 0, 0, 8));
        c.due("COMES -1", 4, () -> Setup.comes(x, 0, 0, 0, -1, 0, 0));
        c.due("part ahead of bounds", 3, () -> x.day(0, 0, 0, 2));
        LightsMarket y = new LightsMarket();
        y.place();
        y.mill(0, 3, 0, 7, 1, 0, 0, 0, 0);
        y.mill(0, 0, 0, 7, 100, 0, 0, 0, 0);
        y.sheet(0, 4);
        Setup.loads(y, 0, 0, 5, 4, 3, 2);
        Setup.comes(y, 0, 0, 1, 2, 3, 4);
        int[] want = {401, 202, 3, 2};
        for (int q = 0; q < 4; q++) {
            int quarter = q;
            c.due("LOADS and COMES of " + q, want[q], () -> y.least(quarter, 2, 0));
        }
        Setup.loads(y, 0, 0, 0, 0, 0, 10);
        Setup.comes(y, 0, 0, 0, 0, 0, 8);
        for (int q = 0; q < 4; q++) {
            int quarter = q;
            c.due("nothing changed in " + q, want[q], () -> y.least(quarter, 2, 0));
        }
    }

    private static void counts() {
        LightsMarket x = new LightsMarket();
        c.missing("count(-1)", () -> x.count(-1));
        c.missing("count(8)", () -> x.count(8));
        Setup.places(x, 3);
        x.line(0, 1, 1, 1);
        x.line(1, 2, 1, 1);
        x.mill(0, 0, 0, 1, 1, 0, 0, 0, 0);
        x.sheet(0, 1);
        x.sheet(0, 1);
        x.sheet(0, 1);
        x.sheet(0, 1);
        x.evenings(7);
        for (int i = 0; i < 5; i++) {
            x.meter(0, 0, 1);
        }
        x.plan(3, 0);
        x.feed(1, 2, 3, 4, 5);
        x.feed(1, 2, 3, 4, 5);
        int[] want = {7, 3, 2, 1, 4, 5, 3, 40};
        for (int what = 0; what < 8; what++) {
            int w = what;
            c.due("count(" + what + ")", want[what], () -> x.count(w));
        }
    }
}
