/** A test of its own for each sentence on EVENINGS, METERS, BILLS and counts that names an edge (promises 31 to 34). */
public final class BillSentencesTest {
    private static final Check c = new Check("BillSentencesTest");
    private static final int LOWEST = Integer.MIN_VALUE;
    private static final int HIGHEST = Integer.MAX_VALUE;

    public static void main(String[] args) {
        evenings();
        meters();
        knownOnEvenings();
        toldLast();
        prices();
        loads();
        bill();
        counts();
        countArguments();
        c.end();
    }

    private static LightsMarket one(int a, int b, int d, int e) {
        LightsMarket x = new LightsMarket();
        x.place();
        x.sheet(0, 4);
        Setup.loads(x, 0, 0, a, b, d, e);
        return x;
    }

    /** A MILL that makes each unit at so much, ON at first. */
    private static LightsMarket at(int cost, int... load) {
        LightsMarket x = one(load[0], load[1], load[2], load[3]);
        x.mill(0, 0, 0, 7, cost, 0, 0, 0, 0);
        return x;
    }

    private static void evenings() {
        c.sentence("EVENINGS from 0 to 99; TONIGHT is 0 at first.", () -> {
            LightsMarket x = new LightsMarket();
            c.due("at first", 0, () -> x.count(0));
            c.due("none go by", 0, () -> x.evenings(0));
            c.due("99 go by", 99, () -> x.evenings(99));
            c.due("TONIGHT", 99, () -> x.count(0));
        });
        c.sentence("n EVENINGS go by: TONIGHT. IllegalArgumentException: n is below 0, or it would be above 99.", () -> {
            LightsMarket x = new LightsMarket();
            for (int bad : new int[] {-1, 100, LOWEST, HIGHEST}) {
                c.refused("n " + bad, () -> x.evenings(bad));
            }
            c.due("nothing changed", 0, () -> x.count(0));
            c.due("1", 1, () -> x.evenings(1));
            c.refused("99 more", () -> x.evenings(99));
            c.refused("the highest more", () -> x.evenings(HIGHEST));
            c.due("98 more", 99, () -> x.evenings(98));
            c.refused("1 more", () -> x.evenings(1));
            c.due("none more", 99, () -> x.evenings(0));
        });
    }

    private static void meters() {
        c.sentence("of a PLACE and QUARTER units (0 to 99), told TONIGHT, at most 60 in all", () -> {
            LightsMarket x = one(0, 0, 0, 0);
            x.place();
            c.due("units 0", 1, () -> x.meter(0, 0, 0));
            c.due("units 99", 2, () -> x.meter(1, 3, 99));
            for (int i = 3; i <= 60; i++) {
                int k = i;
                c.due("METER " + i, i, () -> x.meter(k & 1, k & 3, k));
            }
            c.due("one more", -1, () -> x.meter(0, 0, 0));
            c.due("how many", 60, () -> x.count(5));
        });
        c.sentence("A METER: how many were told. NONE: there are 60, or units are not as told.", () -> {
            LightsMarket x = at(3, 1, 1, 1, 1);
            x.plan(1, 1);
            for (int bad : new int[] {-1, 100, LOWEST, HIGHEST}) {
                c.due("units " + bad, -1, () -> x.meter(0, 0, bad));
            }
            c.due("none was told", 0, () -> x.count(5));
            c.due("BILL of the LOAD", 3, () -> x.bill(0, 0));
            for (int i = 1; i <= 60; i++) {
                x.meter(0, 0, 7);
            }
            c.due("there are 60", -1, () -> x.meter(0, 0, 8));
            c.due("the 61st doesn't count", 21, () -> x.bill(0, 0));
            c.missing("no such PLACE is ahead", () -> x.meter(1, 0, 8));
            c.missing("no such QUARTER is ahead", () -> x.meter(0, 4, 100));
        });
    }

    private static void knownOnEvenings() {
        c.sentence("BILL of a PLACE as known on EVENING k", () -> {
            LightsMarket x = at(2, 5, 0, 0, 0);
            x.plan(1, 1);
            x.evenings(3);
            x.meter(0, 0, 10);
            x.evenings(4);
            x.meter(0, 0, 20);
            x.evenings(92);
            x.meter(0, 0, 30);
            int[][] due = {{0, 10}, {2, 10}, {3, 20}, {6, 20}, {7, 40}, {98, 40}, {99, 60}};
            for (int[] row : due) {
                c.due("as known on " + row[0], row[1], () -> x.bill(0, row[0]));
            }
        });
    }

    private static void toldLast() {
        c.sentence("what its METER told last by then", () -> {
            LightsMarket x = at(2, 5, 5, 0, 0);
            x.plan(2, 1);
            x.meter(0, 0, 9);
            x.meter(0, 0, 4);
            c.due("the last of one EVENING", 2 * (4 + 5), () -> x.bill(0, 0));
            x.meter(0, 1, 0);
            c.due("0 is told, too", 2 * 4, () -> x.bill(0, 0));
            x.evenings(1);
            x.meter(0, 0, 50);
            x.meter(0, 1, 60);
            c.due("as of EVENING 0 still", 2 * 4, () -> x.bill(0, 0));
            c.due("as of EVENING 1", 2 * (50 + 60), () -> x.bill(0, 1));
        });
        c.sentence("METERS: of a PLACE and QUARTER", () -> {
            LightsMarket x = at(2, 5, 5, 5, 5);
            x.place();
            x.line(0, 1, 1, 9);
            x.plan(2, 1);
            x.meter(1, 0, 7);
            c.due("of the other PLACE", 20, () -> x.bill(0, 0));
            c.due("its own", 14, () -> x.bill(1, 0));
            x.meter(0, 2, 99);
            x.meter(0, 3, 99);
            c.due("QUARTERS that aren't in THE BEST", 20, () -> x.bill(0, 0));
            x.meter(0, 1, 6);
            c.due("QUARTER 1", 10 + 12, () -> x.bill(0, 0));
        });
    }

    private static void prices() {
        c.sentence("PRICE (9999 if none)", () -> {
            LightsMarket x = one(3, 2, 0, 0);
            x.mill(0, 0, 0, 3, 5, 0, 0, 0, 0);
            x.plan(2, 1);
            c.due("none in QUARTER 0", 3 * 9999 + 10, () -> x.bill(0, 0));
            x.meter(0, 0, 0);
            c.due("times 0", 10, () -> x.bill(0, 0));
            x.meter(0, 0, 99);
            c.due("times 99", 99 * 9999 + 10, () -> x.bill(0, 0));
            LightsMarket y = one(3, 0, 0, 0);
            y.mill(0, 0, 0, 7, 1, 0, 0, 0, 0);
            Setup.offer(y, 0, "price (load = 3) * 7 + (load = 4) * 5;");
            y.plan(1, 1);
            c.due("a PRICE that is -1", -3, () -> y.bill(0, 0));
        });
    }

    private static void loads() {
        c.sentence("without one its LOAD", () -> {
            LightsMarket x = at(2, 5, 0, 3, 0);
            x.plan(4, 1);
            c.due("LOADS", 16, () -> x.bill(0, 0));
            Setup.loads(x, 0, 0, 9, 9, 9, 9);
            c.due("as THE BEST was found", 16, () -> x.bill(0, 0));
            x.meter(0, 2, 1);
            c.due("one by a METER", 12, () -> x.bill(0, 0));
        });
    }

    private static void bill() {
        c.sentence("BILL; 0 if nothing is kept.", () -> {
            LightsMarket x = at(2, 5, 0, 3, 0);
            c.due("nothing is kept", 0, () -> x.bill(0, 0));
            x.meter(0, 0, 9);
            x.least(0, 1, 0);
            c.due("nothing still", 0, () -> x.bill(0, 0));
            x.plan(1, 1);
            c.due("a METER told ahead of it", 18, () -> x.bill(0, 0));
        });
        c.sentence("NoSuchElementException: no such PLACE. IllegalArgumentException: no such EVENING (0 to TONIGHT).", () -> {
            LightsMarket x = at(2, 5, 0, 3, 0);
            for (int round = 0; round < 2; round++) {
                for (int bad : new int[] {-1, 1, 4, LOWEST, HIGHEST}) {
                    c.missing("PLACE " + bad, () -> x.bill(bad, 0));
                    c.missing("PLACE " + bad + ", no such EVENING", () -> x.bill(bad, -1));
                    c.refused("EVENING " + bad, () -> x.bill(0, bad));
                }
                x.plan(1, 1);
            }
            x.evenings(2);
            c.due("TONIGHT", 10, () -> x.bill(0, 2));
            c.refused("tomorrow", () -> x.bill(0, 3));
            x.evenings(97);
            c.due("EVENING 99", 10, () -> x.bill(0, 99));
            c.refused("EVENING 100", () -> x.bill(0, 100));
        });
    }

    private static void counts() {
        c.sentence("0 TONIGHT, 1 PLACES, 2 LINES, 3 MILLS, 4 SHEETS, 5 METERS,"
                + " 6 QUARTERS of THE BEST that is kept (0), 7 bytes of the tape", () -> {
            LightsMarket x = new LightsMarket();
            for (int what = 0; what < 8; what++) {
                int w = what;
                c.due("count(" + what + ") of a new object", 0, () -> x.count(w));
            }
            Setup.places(x, 4);
            for (int i = 0; i < 5; i++) {
                x.line(i & 1, 2 + (i & 1), 1, 9);
            }
            x.line(0, 1, 1, 9);
            x.mill(0, 3, 0, 1, 1, 0, 0, 0, 0);
            x.mill(0, 3, 0, 1, 1, 0, 0, 0, 0);
            x.sheet(0, -1);
            x.sheet(0, 0);
            x.sheet(0, 12);
            x.meter(0, 0, 1);
            x.evenings(6);
            x.feed(0, 0, 0, 0, 0);
            int[] due = {6, 4, 5, 2, 3, 1, 0, 20};
            for (int what = 0; what < 8; what++) {
                int w = what;
                c.due("count(" + what + ")", due[what], () -> x.count(w));
            }
        });
        c.sentence("6 QUARTERS of THE BEST that is kept (0)", () -> {
            LightsMarket x = at(1, 1, 1, 1, 8);
            c.due("none", 0, () -> x.count(6));
            x.plan(4, 1);
            c.due("there is none", 0, () -> x.count(6));
            x.plan(3, 1);
            c.due("3", 3, () -> x.count(6));
            x.plan(4, 1);
            c.due("3 still", 3, () -> x.count(6));
            x.plan(2, 1);
            c.due("2", 2, () -> x.count(6));
        });
    }

    private static void countArguments() {
        c.sentence("`int count(int what) throws NoSuchElementException`", () -> {
            LightsMarket x = new LightsMarket();
            for (int bad : new int[] {-1, 8, LOWEST, HIGHEST}) {
                c.missing("what " + bad, () -> x.count(bad));
            }
        });
    }
}
