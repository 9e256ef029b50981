/** A test of its own for each sentence on RULES, FLOWS and THE LEAST that names an edge (promises 13 to 16). */
public final class QuarterSentencesTest {
    private static final Check c = new Check("QuarterSentencesTest");
    private static final int LOWEST = Integer.MIN_VALUE;
    private static final int HIGHEST = Integer.MAX_VALUE;

    public static void main(String[] args) {
        rules();
        flows();
        flowArguments();
        joined();
        slowAndReady();
        windAndWater();
        together();
        linesTooFull();
        falls();
        leastOfLike();
        none();
        leastArguments();
        units();
        c.end();
    }

    /** One PLACE with LOADS for QUARTERS 0 to 3, on SHEET 0. */
    private static LightsMarket one(int a, int b, int d, int e) {
        LightsMarket x = new LightsMarket();
        x.place();
        x.sheet(0, 4);
        Setup.loads(x, 0, 0, a, b, d, e);
        return x;
    }

    private static void unitsAre(LightsMarket x, int... want) {
        for (int m = 0; m < want.length; m++) {
            int mill = m;
            c.due("units of MILL " + m, want[m], () -> x.units(mill));
        }
    }

    private static void rules() {
        c.sentence("SLACK (0 to 99; 0 at first)", () -> {
            LightsMarket x = new LightsMarket();
            c.yes("0", () -> x.rules(true, 0, 100));
            c.yes("99", () -> x.rules(true, 99, 100));
            for (int bad : new int[] {-1, 100, LOWEST, HIGHEST}) {
                c.no("SLACK " + bad, () -> x.rules(false, bad, 100));
            }
        });
        c.sentence("WHOLES (0 to 100; 100 at first)", () -> {
            LightsMarket x = one(1, 0, 0, 0);
            x.mill(0, 0, 0, 7, 1, 0, 0, 5, 0);
            x.plan(1, 0);
            c.due("100 at first", 5, () -> x.pays(0, 2));
            c.yes("0", () -> x.rules(false, 0, 0));
            c.yes("100", () -> x.rules(false, 0, 100));
            for (int bad : new int[] {-1, 101, LOWEST, HIGHEST}) {
                c.no("WHOLES " + bad, () -> x.rules(false, 0, bad));
            }
        });
        c.sentence("FALLS asked or not (not at first)", () -> {
            LightsMarket x = twoLines(9, 1, 5);
            c.due("not asked", 5, () -> x.least(0, 1, 0));
            c.yes("asked", () -> x.rules(true, 0, 100));
            c.due("asked, and SLACK 0", -1, () -> x.least(0, 1, 0));
            c.yes("not asked again", () -> x.rules(false, 0, 100));
            c.due("not asked again", 5, () -> x.least(0, 1, 0));
        });
        c.sentence("RULES: true. False: a number is not as told.", () -> {
            LightsMarket x = twoLines(9, 1, 5);
            c.no("SLACK", () -> x.rules(true, 100, 100));
            c.no("WHOLES", () -> x.rules(true, 0, 101));
            c.no("both", () -> x.rules(true, -1, -1));
            c.due("nothing changed", 5, () -> x.least(0, 1, 0));
            c.yes("right", () -> x.rules(true, 4, 0));
            c.due("with SLACK 4", 5, () -> x.least(0, 1, 0));
            c.no("not right", () -> x.rules(true, 3, 101));
            c.due("with SLACK 4 still", 5, () -> x.least(0, 1, 0));
        });
    }

    /** Two LINES side by side, of stiffness so and 1, each of most so; at 1 a LOAD, at 0 a MILL. */
    private static LightsMarket twoLines(int stiffness, int most, int load) {
        LightsMarket x = new LightsMarket();
        Setup.places(x, 2);
        x.line(0, 1, stiffness, most + 8);
        x.line(0, 1, 1, most);
        x.sheet(0, 4);
        Setup.loads(x, 0, 1, load, load, load, load);
        x.mill(0, 0, 0, 7, 1, 0, 0, 0, 0);
        return x;
    }

    private static void flow(LightsMarket x, int line, int a, int b, int top, int bottom) {
        String what = "FLOW of " + line + " from " + a + " to " + b;
        c.due(what, top, () -> x.flow(line, a, b, 0));
        c.due(what + ", denominator", bottom, () -> x.flow(line, a, b, 1));
    }

    private static void flows() {
        c.sentence("each LINE's is its stiffness times the height of its first PLACE less that of its second", () -> {
            LightsMarket x = new LightsMarket();
            Setup.places(x, 2);
            x.line(0, 1, 1, 9);
            x.line(0, 1, 9, 9);
            x.line(1, 0, 2, 9);
            flow(x, 0, 0, 1, 1, 12);
            flow(x, 1, 0, 1, 3, 4);
            flow(x, 2, 0, 1, -1, 6);
            flow(x, 0, 1, 0, -1, 12);
            flow(x, 2, 1, 0, 1, 6);
        });
        c.sentence("heights being such that from each PLACE goes off as much as is put in there", () -> {
            LightsMarket x = new LightsMarket();
            Setup.places(x, 4);
            x.line(0, 1, 1, 9);
            x.line(1, 2, 2, 9);
            x.line(2, 3, 3, 9);
            x.line(3, 0, 4, 9);
            // ways of 2/3 and 12/7: 14/50 and 36/50
            flow(x, 0, 0, 2, 7, 25);
            flow(x, 1, 0, 2, 7, 25);
            flow(x, 2, 2, 0, 18, 25);
            flow(x, 3, 2, 0, 18, 25);
        });
        c.sentence("a fraction, told exactly", () -> {
            LightsMarket x = new LightsMarket();
            Setup.places(x, 4);
            x.line(0, 1, 9, 9);
            x.line(1, 2, 8, 9);
            x.line(2, 3, 7, 9);
            x.line(3, 0, 5, 9);
            x.line(1, 3, 1, 9);
            flow(x, 0, 0, 1, 1314, 1669);
            flow(x, 1, 0, 1, -280, 1669);
            flow(x, 2, 0, 1, -280, 1669);
            flow(x, 3, 0, 1, -355, 1669);
            flow(x, 4, 0, 1, -75, 1669);
        });
    }

    private static void flowArguments() {
        c.sentence("one unit being put in at PLACE a and taken out at b (0 if they are one)", () -> {
            LightsMarket x = new LightsMarket();
            Setup.places(x, 3);
            x.line(0, 1, 3, 9);
            x.line(1, 2, 5, 9);
            for (int p = 0; p < 3; p++) {
                flow(x, 0, p, p, 0, 1);
                flow(x, 1, p, p, 0, 1);
            }
            flow(x, 1, 0, 1, 0, 1);
            flow(x, 1, 0, 2, 1, 1);
            flow(x, 1, 2, 0, -1, 1);
        });
        c.sentence("what 0 its numerator, 1 its denominator (least terms; above 0)", () -> {
            LightsMarket x = new LightsMarket();
            Setup.places(x, 2);
            x.line(0, 1, 6, 9);
            x.line(1, 0, 9, 9);
            flow(x, 0, 0, 1, 2, 5);
            flow(x, 0, 1, 0, -2, 5);
            flow(x, 1, 0, 1, -3, 5);
            flow(x, 1, 1, 0, 3, 5);
        });
        c.sentence("NONE (of both): not all PLACES are JOINED.", () -> {
            LightsMarket x = new LightsMarket();
            Setup.places(x, 3);
            x.line(0, 1, 1, 9);
            flow(x, 0, 0, 1, -1, -1);
            flow(x, 0, 0, 2, -1, -1);
            flow(x, 0, 1, 1, -1, -1);
            x.line(1, 2, 1, 9);
            flow(x, 0, 0, 1, 1, 1);
            x.place();
            flow(x, 0, 0, 1, -1, -1);
        });
        c.sentence("NoSuchElementException: no such LINE, another what.", () -> {
            LightsMarket x = new LightsMarket();
            Setup.places(x, 2);
            x.line(0, 1, 1, 9);
            for (int bad : new int[] {-1, 1, 5, LOWEST, HIGHEST}) {
                c.missing("LINE " + bad, () -> x.flow(bad, 0, 1, 0));
            }
            for (int bad : new int[] {-1, 2, LOWEST, HIGHEST}) {
                c.missing("what " + bad, () -> x.flow(0, 0, 1, bad));
            }
            x.place();
            c.missing("LINE 1, not JOINED", () -> x.flow(1, 0, 1, 0));
            c.missing("what 2, not JOINED", () -> x.flow(0, 0, 1, 2));
        });
    }

    private static void joined() {
        c.sentence("All PLACES have to be JOINED by LINES.", () -> {
            LightsMarket x = new LightsMarket();
            c.due("none", 0, () -> x.least(0, 0, 0));
            x.place();
            c.due("one", 0, () -> x.least(0, 0, 0));
            x.place();
            c.due("two, no LINE", -1, () -> x.least(0, 0, 0));
            x.line(1, 0, 1, 0);
            c.due("two, a LINE that may carry nothing", 0, () -> x.least(0, 0, 0));
            x.place();
            x.place();
            x.line(2, 3, 9, 99);
            c.due("two and two", -1, () -> x.least(0, 0, 0));
            c.due("no plan either", -1, () -> x.plan(1, 0));
            x.line(3, 0, 1, 0);
            c.due("four", 0, () -> x.least(0, 0, 0));
            c.due("a plan", 0, () -> x.plan(1, 0));
        });
    }

    private static void slowAndReady() {
        c.sentence("ON ones least to most, others of these 0", () -> {
            for (int kind = 0; kind < 2; kind++) {
                int k = kind;
                LightsMarket x = one(1, 2, 5, 6);
                x.mill(0, k, 0, 5, 10, 2, 0, 0, 0);
                c.due("below its least", -1, () -> x.least(0, 1, 0));
                c.due("its least", 20, () -> x.least(1, 1, 0));
                c.due("its most", 50, () -> x.least(2, 1, 0));
                c.due("above its most", -1, () -> x.least(3, 1, 0));
                c.due("others 0", -1, () -> x.least(1, 0, 0));
                Setup.loads(x, 0, 0, 0, 0, 0, 0);
                c.due("ON, and nothing is needed", -1, () -> x.least(0, 1, 0));
                c.due("not ON, and nothing is needed", 0, () -> x.least(0, 0, 0));
            }
        });
        c.sentence("MILLS that are ON (SLOW and READY ones; others are always)", () -> {
            LightsMarket x = one(4, 4, 4, 4);
            x.mill(0, 3, 0, 2, 1, 0, 0, 0, 0);
            x.mill(0, 2, 0, 2, 1, 0, 0, 0, 0);
            Setup.comes(x, 0, 0, 2, 2, 2, 2);
            c.due("no bits", 4, () -> x.least(0, 0, 2));
            c.due("all bits", 4, () -> x.least(0, -1, 2));
        });
        c.sentence("(bits of MILLS; those that are always ON, none counts for nothing)", () -> {
            LightsMarket x = one(3, 3, 3, 3);
            x.mill(0, 3, 0, 2, 1, 0, 0, 0, 0);
            x.mill(0, 0, 0, 7, 10, 0, 0, 0, 0);
            for (int other : new int[] {0, 1, 4, 8, 16, -3, LOWEST, HIGHEST - 2}) {
                c.due("on with " + other, 30, () -> x.least(0, other | 2, 0));
                c.due("off with " + other, -1, () -> x.least(0, other & -3, 0));
            }
        });
    }

    private static void windAndWater() {
        c.sentence("WIND 0 to what COMES (no more than most)", () -> {
            LightsMarket x = one(5, 5, 5, 5);
            x.mill(0, 3, 0, 4, 1, 0, 0, 0, 0);
            x.mill(0, 0, 0, 7, 10, 0, 0, 0, 0);
            Setup.comes(x, 0, 0, 0, 3, 4, 7);
            int[] want = {50, 23, 14, 14};
            for (int q = 0; q < 4; q++) {
                int quarter = q;
                c.due("in " + q, want[q], () -> x.least(quarter, 2, 0));
            }
            Setup.offer(x, 0, "price 20;");
            c.due("0 of 7 if it is dear", 50, () -> x.least(3, 2, 0));
            unitsAre(x, 0, 5);
        });
        c.sentence("WATER w", () -> {
            LightsMarket x = one(3, 3, 3, 3);
            x.mill(0, 2, 0, 7, 20, 0, 0, 0, 0);
            x.mill(0, 0, 0, 7, 10, 0, 0, 0, 0);
            for (int w = 0; w <= 3; w++) {
                int give = w;
                c.due("w " + w + ", an empty lake", 30 + 10 * w, () -> x.least(0, 2, give));
                unitsAre(x, w, 3 - w);
            }
            c.due("w 4 of 3", -1, () -> x.least(0, 2, 4));
            Setup.offer(x, 0, "price 1; when unit < 2;");
            c.due("w 1 is OFFERED", 21, () -> x.least(0, 2, 1));
            c.due("w 2 isn't", -1, () -> x.least(0, 2, 2));
        });
    }

    private static void together() {
        c.sentence("all together as many as all LOADS", () -> {
            LightsMarket x = new LightsMarket();
            Setup.places(x, 2);
            x.line(0, 1, 1, 99);
            x.sheet(0, 4);
            x.mill(0, 0, 0, 7, 1, 0, 0, 0, 0);
            x.mill(1, 0, 0, 7, 1, 0, 0, 0, 0);
            Setup.loads(x, 0, 0, 0, 9, 9, 9);
            Setup.loads(x, 0, 1, 0, 0, 5, 6);
            c.due("0", 0, () -> x.least(0, 3, 0));
            c.due("9", 9, () -> x.least(1, 3, 0));
            c.due("14, all they can", 14, () -> x.least(2, 3, 0));
            c.due("15", -1, () -> x.least(3, 3, 0));
        });
        c.sentence("each MILL makes whole units", () -> {
            LightsMarket x = one(1, 2, 0, 0);
            x.mill(0, 0, 0, 7, 1, 1, 0, 0, 0);
            x.mill(0, 0, 0, 7, 1, 1, 0, 0, 0);
            c.due("not half of one each", -1, () -> x.least(0, 3, 0));
            c.due("one each", 2, () -> x.least(1, 3, 0));
        });
        c.sentence("of units that are OFFERED", () -> {
            LightsMarket x = one(2, 3, 4, 0);
            x.mill(0, 0, 0, 7, 1, 2, 0, 0, 0);
            Setup.offer(x, 0, "price 1; when unit < 4;");
            c.due("3", 3, () -> x.least(1, 1, 0));
            c.due("4", -1, () -> x.least(2, 1, 0));
            Setup.offer(x, 0, "price 1; when unit < 3;");
            c.due("just its least", 2, () -> x.least(0, 1, 0));
            Setup.offer(x, 0, "price 1; when unit < 2;");
            c.due("not even its least", -1, () -> x.least(0, 1, 0));
            Setup.offer(x, 0, "price 1; when not unit = 1;");
            c.due("the first isn't", -1, () -> x.least(0, 1, 0));
        });
    }

    private static void linesTooFull() {
        c.sentence("(what MILLS make there less LOADS, together 0)", () -> {
            LightsMarket x = new LightsMarket();
            Setup.places(x, 2);
            x.line(0, 1, 4, 1);
            x.sheet(0, 4);
            x.mill(0, 0, 0, 7, 1, 3, 0, 0, 0);
            x.mill(1, 0, 0, 7, 1, 3, 0, 0, 0);
            Setup.loads(x, 0, 0, 3, 2, 1, 7);
            Setup.loads(x, 0, 1, 3, 4, 5, 7);
            c.due("none flows", 6, () -> x.least(0, 3, 0));
            c.due("one flows", 6, () -> x.least(1, 3, 0));
            c.due("two would", -1, () -> x.least(2, 3, 0));
            c.due("all they can", 14, () -> x.least(3, 3, 0));
        });
        c.sentence("no LINE's FLOW is above its most (either way)", () -> {
            for (int turned = 0; turned < 2; turned++) {
                int a = turned;
                LightsMarket x = new LightsMarket();
                Setup.places(x, 2);
                x.line(a, 1 - a, 4, 3);
                x.sheet(0, 4);
                x.mill(0, 0, 0, 7, 1, 0, 0, 0, 0);
                Setup.loads(x, 0, 1, 3, 4, 0, 0);
                c.due("just full", 3, () -> x.least(0, 1, 0));
                c.due("above", -1, () -> x.least(1, 1, 0));
                Setup.loads(x, 0, 0, 4, 3, 0, 0);
                c.due("what is used on the spot doesn't flow", 7, () -> x.least(0, 1, 0));
                c.due("above still", -1, () -> x.least(1, 1, 0));
            }
        });
        c.sentence("no LINE's FLOW is above its most", () -> {
            LightsMarket x = new LightsMarket();
            Setup.places(x, 3);
            x.line(0, 1, 1, 2);
            x.line(1, 2, 1, 2);
            x.line(0, 2, 1, 4);
            x.sheet(0, 4);
            x.mill(0, 0, 0, 7, 1, 0, 0, 0, 0);
            Setup.loads(x, 0, 2, 6, 7, 0, 0);
            c.due("4 and 2", 6, () -> x.least(0, 1, 0));
            c.due("14/3 and 7/3", -1, () -> x.least(1, 1, 0));
        });
    }

    private static void falls() {
        c.sentence("nor is it above most and SLACK with any one LINE fallen", () -> {
            LightsMarket x = new LightsMarket();
            Setup.places(x, 2);
            x.line(0, 1, 1, 3);
            x.line(1, 0, 1, 4);
            x.sheet(0, 4);
            x.mill(0, 0, 0, 7, 1, 0, 0, 0, 0);
            Setup.loads(x, 0, 1, 3, 4, 5, 6);
            x.rules(true, 0, 100);
            c.due("3", 3, () -> x.least(0, 1, 0));
            c.due("4, too much for the first", -1, () -> x.least(1, 1, 0));
            x.rules(true, 1, 100);
            c.due("4 with SLACK 1", 4, () -> x.least(1, 1, 0));
            c.due("5 with SLACK 1", -1, () -> x.least(2, 1, 0));
            x.rules(true, 99, 100);
            c.due("6 by halves, without SLACK", 6, () -> x.least(3, 1, 0));
            Setup.loads(x, 0, 1, 7, 7, 7, 7);
            c.due("7 by halves, SLACK is for FALLS alone", -1, () -> x.least(3, 1, 0));
        });
        c.sentence("with any one LINE fallen", () -> {
            LightsMarket x = new LightsMarket();
            Setup.places(x, 3);
            x.line(0, 1, 1, 3);
            x.line(1, 2, 1, 3);
            x.line(2, 0, 1, 3);
            x.sheet(0, 4);
            x.mill(0, 0, 0, 7, 1, 0, 0, 0, 0);
            Setup.loads(x, 0, 1, 3, 4, 0, 0);
            x.rules(true, 0, 100);
            c.due("all 3 go the one way or the other, on the fallen one goes nothing", 3, () -> x.least(0, 1, 0));
            c.due("4 don't", -1, () -> x.least(1, 1, 0));
            x.rules(false, 0, 100);
            c.due("by thirds they do", 4, () -> x.least(1, 1, 0));
        });
        c.sentence("(one that parts the PLACES isn't asked)", () -> {
            LightsMarket x = new LightsMarket();
            Setup.places(x, 3);
            x.line(0, 1, 1, 5);
            x.line(1, 2, 1, 5);
            x.sheet(0, 4);
            x.mill(0, 0, 0, 7, 1, 0, 0, 0, 0);
            Setup.loads(x, 0, 2, 5, 5, 5, 5);
            x.rules(true, 0, 100);
            c.due("each parts them", 5, () -> x.least(0, 1, 0));
            x.line(0, 1, 1, 4);
            c.due("one of two that don't is too full alone", -1, () -> x.least(0, 1, 0));
            x.rules(true, 1, 100);
            c.due("with SLACK 1", 5, () -> x.least(0, 1, 0));
        });
    }

    private static void leastOfLike() {
        c.sentence("the one of the least sum of what is ASKED", () -> {
            LightsMarket x = one(4, 4, 4, 4);
            x.mill(0, 0, 0, 7, 10, 0, 0, 0, 0);
            x.mill(0, 0, 0, 7, 11, 0, 0, 0, 0);
            c.due("all of the first", 40, () -> x.least(0, 3, 0));
            unitsAre(x, 4, 0);
            Setup.offer(x, 0, "price unit * 5;");
            c.due("5, 10, 11, 11", 37, () -> x.least(0, 3, 0));
            unitsAre(x, 2, 2);
            Setup.offer(x, 0, "price 20 - 19 * (1 < unit);");
            c.due("a dear first one, cheap others: 20, 1, 1, 1", 23, () -> x.least(0, 3, 0));
            unitsAre(x, 4, 0);
        });
        c.sentence("of like ones the first as a row of units, by MILLS: THE LEAST", () -> {
            LightsMarket x = one(5, 1, 0, 4);
            for (int m = 0; m < 4; m++) {
                x.mill(0, m % 2, 0, 2, 7, 0, 0, 0, 0);
            }
            c.due("5 of 8", 35, () -> x.least(0, 15, 0));
            unitsAre(x, 0, 1, 2, 2);
            c.due("1 of 8", 7, () -> x.least(1, 15, 0));
            unitsAre(x, 0, 0, 0, 1);
            c.due("0 of 8", 0, () -> x.least(2, 15, 0));
            unitsAre(x, 0, 0, 0, 0);
            c.due("4 of 6", 28, () -> x.least(3, 7, 0));
            unitsAre(x, 0, 2, 2, 0);
        });
    }

    private static void none() {
        c.sentence("There may be none.", () -> {
            LightsMarket x = one(1, 0, 0, 0);
            c.due("no MILL for a LOAD", -1, () -> x.least(0, 0, 0));
            c.due("no MILL for no LOAD", 0, () -> x.least(1, 0, 0));
            LightsMarket y = new LightsMarket();
            c.due("nothing at all", 0, () -> y.least(0, 0, 0));
        });
    }

    private static void leastArguments() {
        c.sentence("there is none, or w is above WATER's most, or not 0 without one", () -> {
            LightsMarket x = one(3, 0, 0, 0);
            x.mill(0, 0, 0, 7, 1, 0, 0, 0, 0);
            for (int w : new int[] {1, 7, HIGHEST}) {
                c.due("w " + w + " without one", -1, () -> x.least(0, 1, w));
            }
            c.due("w 0 without one", 3, () -> x.least(0, 1, 0));
            x.mill(0, 2, 0, 2, 1, 0, 0, 0, 0);
            c.due("w 2 of 2", 3, () -> x.least(0, 1, 2));
            for (int w : new int[] {3, 7, 8, HIGHEST}) {
                c.due("w " + w + " of 2", -1, () -> x.least(0, 1, w));
            }
        });
        c.sentence("its units are kept; NONE (what was kept stays)", () -> {
            LightsMarket x = one(3, 9, 0, 0);
            x.mill(0, 0, 0, 7, 1, 0, 0, 0, 0);
            x.mill(0, 2, 0, 2, 1, 0, 0, 0, 0);
            c.due("one", 3, () -> x.least(0, 1, 1));
            unitsAre(x, 2, 1);
            c.due("there is none", -1, () -> x.least(1, 1, 0));
            unitsAre(x, 2, 1);
            c.due("w above most", -1, () -> x.least(0, 1, 3));
            unitsAre(x, 2, 1);
            c.refused("w below 0", () -> x.least(0, 1, -1));
            unitsAre(x, 2, 1);
            c.missing("no such QUARTER", () -> x.least(4, 1, 0));
            unitsAre(x, 2, 1);
            c.due("another one", 0, () -> x.least(2, 1, 0));
            unitsAre(x, 0, 0);
        });
        c.sentence("IllegalArgumentException: w is below 0.", () -> {
            LightsMarket x = one(0, 0, 0, 0);
            c.refused("w -1", () -> x.least(0, 0, -1));
            c.refused("the lowest", () -> x.least(0, 0, LOWEST));
            c.missing("no such QUARTER is ahead", () -> x.least(4, 0, -1));
            c.missing("no such QUARTER below is ahead", () -> x.least(-1, 0, LOWEST));
        });
    }

    private static void units() {
        c.sentence("Units of a MILL by THE LEAST that is kept; NONE: none is, or the MILL came later.", () -> {
            LightsMarket x = one(2, 9, 0, 0);
            x.mill(0, 0, 0, 7, 1, 0, 0, 0, 0);
            unitsAre(x, -1);
            x.least(1, 1, 0);
            unitsAre(x, -1);
            x.plan(1, 1);
            x.game(0);
            unitsAre(x, -1);
            x.least(0, 1, 0);
            unitsAre(x, 2);
            x.mill(0, 3, 0, 7, 1, 0, 0, 0, 0);
            unitsAre(x, 2, -1);
            c.missing("a MILL that isn't there", () -> x.units(2));
            x.least(0, 1, 0);
            unitsAre(x, 2, 0);
        });
    }
}
