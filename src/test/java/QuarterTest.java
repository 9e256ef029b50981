/** Promises 13 to 16: RULES, FLOWS, THE LEAST and its units. */
public final class QuarterTest {
    private static final Check c = new Check("QuarterTest");

    public static void main(String[] args) {
        rules();
        flowArguments();
        flows();
        unlikeFlows();
        joined();
        leastArguments();
        emptyLand();
        leastOfKinds();
        onBits();
        leastOfAll();
        likeOnes();
        offered();
        wind();
        water();
        lineMost();
        ways();
        fallen();
        fallenBridge();
        fiveLines();
        slack();
        kept();
        c.end();
    }

    private static void rules() {
        LightsMarket x = new LightsMarket();
        c.yes("least numbers", () -> x.rules(false, 0, 0));
        c.yes("most numbers", () -> x.rules(true, 99, 100));
        c.no("slack -1", () -> x.rules(true, -1, 0));
        c.no("slack 100", () -> x.rules(true, 100, 0));
        c.no("wholes -1", () -> x.rules(true, 0, -1));
        c.no("wholes 101", () -> x.rules(true, 0, 101));
    }

    private static void flowArguments() {
        LightsMarket x = new LightsMarket();
        Setup.places(x, 2);
        c.missing("no line", () -> x.flow(0, 0, 1, 0));
        x.line(0, 1, 3, 0);
        c.missing("line -1", () -> x.flow(-1, 0, 1, 0));
        c.missing("line 1", () -> x.flow(1, 0, 1, 0));
        c.missing("a 2", () -> x.flow(0, 2, 1, 0));
        c.missing("b 2", () -> x.flow(0, 0, 2, 0));
        c.missing("a -1", () -> x.flow(0, -1, 1, 0));
        c.missing("b -1", () -> x.flow(0, 0, -1, 0));
        c.missing("what 2", () -> x.flow(0, 0, 1, 2));
        c.missing("what -1", () -> x.flow(0, 0, 1, -1));
        x.place();
        c.missing("what 2 of places that aren't joined", () -> x.flow(0, 0, 1, 2));
        c.missing("no place of places that aren't joined", () -> x.flow(0, 0, 3, 0));
    }

    private static void flow(LightsMarket x, int line, int a, int b, int top, int bottom) {
        String what = "flow of " + line + " from " + a + " to " + b;
        c.due(what, top, () -> x.flow(line, a, b, 0));
        c.due(what + ", denominator", bottom, () -> x.flow(line, a, b, 1));
    }

    private static void flows() {
        LightsMarket x = new LightsMarket();
        Setup.places(x, 3);
        x.line(0, 1, 1, 9);
        x.line(1, 2, 1, 9);
        flow(x, 0, 0, 2, 1, 1);
        flow(x, 1, 0, 1, 0, 1);
        x.line(2, 0, 1, 9);
        flow(x, 0, 0, 1, 2, 3);
        flow(x, 1, 0, 1, -1, 3);
        flow(x, 2, 0, 1, -1, 3);
        flow(x, 0, 1, 0, -2, 3);
        flow(x, 2, 0, 2, -2, 3);
        flow(x, 1, 1, 1, 0, 1);
    }

    private static void unlikeFlows() {
        LightsMarket x = new LightsMarket();
        Setup.places(x, 2);
        x.line(0, 1, 1, 9);
        x.line(1, 0, 3, 9);
        x.line(0, 1, 2, 9);
        flow(x, 0, 0, 1, 1, 6);
        flow(x, 1, 0, 1, -1, 2);
        flow(x, 2, 0, 1, 1, 3);
        // a square of stiffness 1, 2, 3, 4: the ways from 0 to 2 pull as 2/3 and 12/7
        LightsMarket y = new LightsMarket();
        Setup.places(y, 4);
        y.line(0, 1, 1, 9);
        y.line(1, 2, 2, 9);
        y.line(2, 3, 3, 9);
        y.line(3, 0, 4, 9);
        flow(y, 0, 0, 2, 7, 25);
        flow(y, 1, 0, 2, 7, 25);
        flow(y, 2, 0, 2, -18, 25);
        flow(y, 3, 0, 2, -18, 25);
        // a bridge that is even carries nothing
        LightsMarket z = new LightsMarket();
        Setup.places(z, 4);
        z.line(0, 1, 2, 9);
        z.line(0, 2, 2, 9);
        z.line(1, 3, 4, 9);
        z.line(2, 3, 4, 9);
        z.line(1, 2, 9, 9);
        flow(z, 4, 0, 3, 0, 1);
        flow(z, 0, 0, 3, 1, 2);
        // 9 straight, 2 and 2 in a row pull as 1, 4 and 4 as 2
        flow(z, 4, 1, 2, 3, 4);
    }

    private static void joined() {
        LightsMarket x = new LightsMarket();
        Setup.places(x, 3);
        x.line(0, 1, 5, 9);
        flow(x, 0, 0, 1, -1, -1);
        flow(x, 0, 1, 1, -1, -1);
        c.due("no least", -1, () -> x.least(0, 0, 0));
        x.line(2, 1, 5, 9);
        flow(x, 0, 0, 1, 1, 1);
        c.due("a least", 0, () -> x.least(0, 0, 0));
        x.place();
        flow(x, 0, 0, 1, -1, -1);
        c.due("no least again", -1, () -> x.least(0, 0, 0));
    }

    private static void leastArguments() {
        LightsMarket x = new LightsMarket();
        c.missing("quarter 4", () -> x.least(4, 0, 0));
        c.missing("quarter -1", () -> x.least(-1, 0, 0));
        c.missing("quarter ahead of w", () -> x.least(4, 0, -1));
        c.refused("w -1", () -> x.least(0, 0, -1));
        c.refused("w far below", () -> x.least(0, 0, Integer.MIN_VALUE));
        c.due("w without water", -1, () -> x.least(0, 0, 1));
        x.place();
        x.mill(0, 2, 0, 3, 5, 0, 0, 0, 0);
        c.due("w above most", -1, () -> x.least(0, 0, 4));
        c.due("w far above", -1, () -> x.least(0, 0, Integer.MAX_VALUE));
        c.missing("units of none", () -> x.units(1));
        c.missing("units of -1", () -> x.units(-1));
    }

    private static void emptyLand() {
        LightsMarket x = new LightsMarket();
        c.due("an empty land", 0, () -> x.least(3, 0, 0));
        x.place();
        c.due("one place", 0, () -> x.least(3, 0, 0));
        x.sheet(0, 4);
        Setup.loads(x, 0, 0, 0, 1, 0, 0);
        c.due("its load isn't met", -1, () -> x.least(1, 0, 0));
        c.due("none in another quarter", 0, () -> x.least(0, 0, 0));
    }

    private static LightsMarket one(int a, int b, int d, int e) {
        LightsMarket x = new LightsMarket();
        x.place();
        x.sheet(0, 4);
        Setup.loads(x, 0, 0, a, b, d, e);
        return x;
    }

    private static void leastOfKinds() {
        LightsMarket x = one(2, 3, 7, 8);
        x.mill(0, 0, 0, 7, 10, 3, 0, 0, 0);
        c.due("below its least", -1, () -> x.least(0, 1, 0));
        c.due("its least", 30, () -> x.least(1, 1, 0));
        c.due("its most", 70, () -> x.least(2, 1, 0));
        c.due("above its most", -1, () -> x.least(3, 1, 0));
        c.due("off", -1, () -> x.least(1, 0, 0));
        LightsMarket y = one(0, 3, 7, 8);
        y.mill(0, 1, 0, 7, 10, 3, 0, 0, 0);
        c.due("ready, on, below its least", -1, () -> y.least(0, 1, 0));
        c.due("ready, its least", 30, () -> y.least(1, 1, 0));
        c.due("ready, off", 0, () -> y.least(0, 0, 0));
        c.due("ready, off, none", 0, () -> y.units(0));
    }

    private static void onBits() {
        LightsMarket x = one(4, 4, 4, 4);
        x.mill(0, 0, 0, 7, 10, 0, 0, 0, 0);
        x.mill(0, 3, 0, 7, 1, 0, 0, 0, 0);
        x.mill(0, 2, 0, 7, 2, 9, 0, 0, 0);
        Setup.comes(x, 0, 1, 2, 2, 2, 2);
        for (int other : new int[] {0, 2, 4, 8, 14, 16, -2, Integer.MIN_VALUE, 0x7ffffff0}) {
            c.due("off with " + other, -1, () -> x.least(0, other, 0));
            c.due("on with " + other, 22, () -> x.least(0, other | 1, 0));
            c.due("off with " + other + ", w", 6, () -> x.least(0, other & -2, 2));
        }
    }

    private static void leastOfAll() {
        LightsMarket x = one(6, 6, 6, 6);
        x.mill(0, 0, 0, 7, 30, 1, 0, 0, 0);
        x.mill(0, 0, 0, 4, 10, 0, 0, 0, 0);
        x.mill(0, 0, 0, 7, 20, 0, 0, 0, 0);
        c.due("all on", 30 + 40 + 20, () -> x.least(0, 7, 0));
        c.due("units 0", 1, () -> x.units(0));
        c.due("units 1", 4, () -> x.units(1));
        c.due("units 2", 1, () -> x.units(2));
        c.due("without the dear one", 40 + 40, () -> x.least(0, 6, 0));
        c.due("units 0 off", 0, () -> x.units(0));
        c.due("units 2", 2, () -> x.units(2));
    }

    /** Of like ones the first as a row of units. */
    private static void likeOnes() {
        LightsMarket x = one(5, 5, 5, 5);
        x.mill(0, 0, 0, 3, 10, 0, 0, 0, 0);
        x.mill(0, 0, 0, 3, 10, 0, 0, 0, 0);
        x.mill(0, 0, 0, 3, 10, 0, 0, 0, 0);
        c.due("like ones", 50, () -> x.least(0, 7, 0));
        c.due("units 0", 0, () -> x.units(0));
        c.due("units 1", 2, () -> x.units(1));
        c.due("units 2", 3, () -> x.units(2));
        LightsMarket y = one(4, 4, 4, 4);
        y.mill(0, 0, 0, 7, 1, 0, 0, 0, 0);
        y.mill(0, 0, 0, 7, 1, 0, 0, 0, 0);
        y.mill(0, 0, 0, 7, 0, 0, 0, 0, 0);
        y.mill(0, 0, 0, 7, 0, 0, 0, 0, 0);
        c.due("like ones of four", 0, () -> y.least(0, 15, 0));
        int[] want = {0, 0, 0, 4};
        for (int m = 0; m < 4; m++) {
            int mill = m;
            c.due("units " + m, want[m], () -> y.units(mill));
        }
    }

    private static void offered() {
        LightsMarket x = one(5, 5, 2, 1);
        x.mill(0, 0, 0, 7, 10, 2, 0, 0, 0);
        x.mill(0, 0, 0, 7, 50, 0, 0, 0, 0);
        Setup.offer(x, 0, "price unit * unit; when unit < 4;");
        c.due("three are offered", 1 + 4 + 9 + 50 + 50, () -> x.least(0, 3, 0));
        c.due("units 0", 3, () -> x.units(0));
        Setup.offer(x, 0, "price 100 - unit * 50 * (unit < 3) + load;");
        c.due("dear later ones", 55 + 5 + 150, () -> x.least(0, 3, 0));
        c.due("units 0", 2, () -> x.units(0));
        c.due("load 2", 52 + 2, () -> x.least(2, 1, 0));
        Setup.offer(x, 0, "price 1; when 1 < unit;");
        c.due("its least isn't offered", -1, () -> x.least(0, 3, 0));
        c.due("off", 250, () -> x.least(0, 2, 0));
        Setup.offer(x, 0, "price quarter;");
        c.due("quarter 1", 5, () -> x.least(1, 3, 0));
        c.due("quarter 0", 0, () -> x.least(0, 3, 0));
    }

    private static void wind() {
        LightsMarket x = one(3, 3, 0, 3);
        x.mill(0, 3, 0, 4, 1, 0, 0, 0, 0);
        x.mill(0, 0, 0, 7, 10, 0, 0, 0, 0);
        Setup.comes(x, 0, 0, 2, 7, 7, 0);
        c.due("what comes", 12, () -> x.least(0, 2, 0));
        c.due("no more than is asked for", 3, () -> x.least(1, 2, 0));
        c.due("nothing", 0, () -> x.least(2, 0, 0));
        c.due("none comes", 30, () -> x.least(3, 2, 0));
        Setup.loads(x, 0, 0, 7, 7, 7, 7);
        c.due("no more than its most", 34, () -> x.least(1, 2, 0));
        c.due("no more than its most alone", -1, () -> x.least(1, 0, 0));
        Setup.offer(x, 0, "price 3; when unit < 2;");
        c.due("no more than is offered", 63, () -> x.least(1, 2, 0));
    }

    private static void water() {
        LightsMarket x = one(3, 3, 3, 3);
        x.mill(0, 2, 0, 4, 2, 0, 0, 0, 0);
        x.mill(0, 0, 0, 7, 10, 0, 0, 0, 0);
        c.due("w 0", 30, () -> x.least(0, 2, 0));
        c.due("w 2, the lake isn't asked", 14, () -> x.least(0, 2, 2));
        c.due("units of w 2", 2, () -> x.units(0));
        c.due("w 3", 6, () -> x.least(0, 2, 3));
        c.due("w 4 is too much", -1, () -> x.least(0, 2, 4));
        Setup.offer(x, 0, "price 2; when unit < 3;");
        c.due("w 3 isn't offered", -1, () -> x.least(0, 2, 3));
        c.due("w 2 is", 14, () -> x.least(0, 2, 2));
    }

    private static void lineMost() {
        LightsMarket x = new LightsMarket();
        Setup.places(x, 2);
        x.line(1, 0, 1, 3);
        x.sheet(0, 4);
        x.mill(0, 0, 0, 7, 1, 0, 0, 0, 0);
        x.mill(1, 0, 0, 7, 9, 0, 0, 0, 0);
        Setup.loads(x, 0, 1, 3, 4, 7, 0);
        c.due("just so full", 3, () -> x.least(0, 3, 0));
        c.due("one too many", 3 + 9, () -> x.least(1, 3, 0));
        c.due("four too many", 3 + 36, () -> x.least(2, 3, 0));
        c.due("not without the other", -1, () -> x.least(1, 1, 0));
        LightsMarket y = new LightsMarket();
        Setup.places(y, 2);
        y.line(0, 1, 1, 0);
        y.sheet(0, 4);
        y.mill(0, 0, 0, 7, 1, 0, 0, 0, 0);
        Setup.loads(y, 0, 0, 3, 3, 3, 3);
        c.due("most 0 and none flows", 3, () -> y.least(0, 1, 0));
        Setup.loads(y, 0, 1, 1, 0, 0, 0);
        c.due("most 0 and one would", -1, () -> y.least(0, 1, 0));
        c.due("in another quarter none", 3, () -> y.least(1, 1, 0));
    }

    /** Around a triangle a third goes the long way. */
    private static LightsMarket triangle(int most01, int most12, int most02) {
        LightsMarket x = new LightsMarket();
        Setup.places(x, 3);
        x.line(0, 1, 1, most01);
        x.line(1, 2, 1, most12);
        x.line(0, 2, 1, most02);
        x.sheet(0, 4);
        x.mill(0, 0, 0, 7, 1, 0, 0, 0, 0);
        x.mill(2, 0, 0, 7, 10, 0, 0, 0, 0);
        Setup.loads(x, 0, 2, 3, 4, 6, 7);
        return x;
    }

    private static void ways() {
        LightsMarket x = triangle(9, 9, 2);
        c.due("3 by thirds", 3, () -> x.least(0, 3, 0));
        c.due("4 by thirds is too much", 3 + 10, () -> x.least(1, 3, 0));
        c.due("7", 3 + 40, () -> x.least(3, 3, 0));
        LightsMarket y = triangle(1, 9, 9);
        c.due("the long way is too full", 3 + 10, () -> y.least(1, 3, 0));
        LightsMarket z = triangle(9, 2, 9);
        c.due("6 by thirds", 6, () -> z.least(2, 3, 0));
        c.due("7 by thirds is too much there", 6 + 10, () -> z.least(3, 3, 0));
    }

    private static void fallen() {
        LightsMarket x = triangle(9, 9, 4);
        c.due("all whole", 6, () -> x.least(2, 3, 0));
        x.rules(true, 0, 100);
        c.due("whichever falls", 4 + 20, () -> x.least(2, 3, 0));
        x.rules(false, 0, 100);
        c.due("not asked again", 6, () -> x.least(2, 3, 0));
        LightsMarket y = triangle(3, 9, 9);
        y.rules(true, 0, 100);
        c.due("the long way when the short one falls", 3 + 30, () -> y.least(2, 3, 0));
        LightsMarket z = triangle(9, 3, 9);
        z.rules(true, 0, 100);
        c.due("the long way's other half", 3 + 30, () -> z.least(2, 3, 0));
    }

    private static void fallenBridge() {
        LightsMarket x = new LightsMarket();
        Setup.places(x, 2);
        x.line(0, 1, 1, 5);
        x.sheet(0, 4);
        x.mill(0, 0, 0, 7, 1, 0, 0, 0, 0);
        Setup.loads(x, 0, 1, 5, 5, 5, 5);
        x.rules(true, 0, 100);
        c.due("one that parts the places isn't asked", 5, () -> x.least(0, 1, 0));
        x.line(0, 1, 4, 5);
        c.due("two lines, each carries all alone", 5, () -> x.least(0, 1, 0));
        x.place();
        x.line(1, 2, 1, 0);
        c.due("a bridge beside", 5, () -> x.least(0, 1, 0));
        LightsMarket y = new LightsMarket();
        Setup.places(y, 2);
        y.line(0, 1, 1, 5);
        y.line(0, 1, 1, 4);
        y.sheet(0, 4);
        y.mill(0, 0, 0, 7, 1, 0, 0, 0, 0);
        Setup.loads(y, 0, 1, 5, 4, 5, 5);
        c.due("both", 5, () -> y.least(0, 1, 0));
        y.rules(true, 0, 100);
        c.due("the second can't alone", -1, () -> y.least(0, 1, 0));
        c.due("four it can", 4, () -> y.least(1, 1, 0));
    }

    /** The fifth line carries most, till it falls. */
    private static void fiveLines() {
        LightsMarket x = new LightsMarket();
        Setup.places(x, 2);
        for (int i = 0; i < 4; i++) {
            x.line(0, 1, 1, 1);
        }
        x.line(1, 0, 9, 9);
        x.sheet(0, 4);
        x.mill(0, 0, 0, 7, 1, 0, 0, 0, 0);
        Setup.loads(x, 0, 1, 6, 4, 5, 0);
        c.due("six by thirteenths", 6, () -> x.least(0, 1, 0));
        x.rules(true, 0, 100);
        c.due("six by quarters", -1, () -> x.least(0, 1, 0));
        c.due("five by quarters", -1, () -> x.least(2, 1, 0));
        c.due("four by quarters", 4, () -> x.least(1, 1, 0));
        x.rules(true, 1, 100);
        c.due("six with slack", 6, () -> x.least(0, 1, 0));
        flow(x, 4, 0, 1, -9, 13);
    }

    private static void slack() {
        LightsMarket x = triangle(9, 9, 4);
        x.rules(true, 1, 100);
        c.due("slack 1", 5 + 10, () -> x.least(2, 3, 0));
        x.rules(true, 2, 100);
        c.due("slack 2", 6, () -> x.least(2, 3, 0));
        c.due("slack 2 and 7", 6 + 10, () -> x.least(3, 3, 0));
        x.rules(false, 2, 100);
        c.due("without falls 7 by thirds isn't above 4 + 2/3", 6 + 10, () -> x.least(3, 3, 0));
        x.rules(true, 99, 100);
        c.due("slack is for falls alone", 6 + 10, () -> x.least(3, 3, 0));
        c.no("not as told", () -> x.rules(true, 100, 0));
        c.due("nothing changed", 6 + 10, () -> x.least(3, 3, 0));
        c.no("not as told either", () -> x.rules(false, 0, 101));
        c.due("nothing changed", 6, () -> x.least(2, 3, 0));
    }

    private static void kept() {
        LightsMarket x = one(3, 9, 4, 0);
        x.mill(0, 0, 0, 7, 1, 0, 0, 0, 0);
        c.due("none is kept", -1, () -> x.units(0));
        c.due("there is none", -1, () -> x.least(1, 1, 0));
        c.due("none is kept still", -1, () -> x.units(0));
        c.due("there is one", 3, () -> x.least(0, 1, 0));
        c.due("kept", 3, () -> x.units(0));
        c.due("there is none", -1, () -> x.least(1, 1, 0));
        c.due("what was kept stays", 3, () -> x.units(0));
        c.due("w without water", -1, () -> x.least(0, 1, 2));
        c.due("it stays", 3, () -> x.units(0));
        c.due("a mill that comes later", 1, () -> x.mill(0, 0, 0, 7, 0, 0, 0, 0, 0));
        c.due("isn't in it", -1, () -> x.units(1));
        c.due("a plan", 7, () -> x.plan(1, 0) + 7);
        c.due("has nothing to do with it", 3, () -> x.units(0));
        x.game(2);
        x.alone(0, 2);
        c.due("nor has a game", 3, () -> x.units(0));
        c.due("the next one", 0, () -> x.least(2, 3, 0));
        c.due("is kept instead", 0, () -> x.units(0));
        c.due("with the later mill", 4, () -> x.units(1));
    }
}
