/** Promises 31 to 33: EVENINGS, METERS and BILLS. */
public final class MeterTest {
    private static final Check c = new Check("MeterTest");

    public static void main(String[] args) {
        evenings();
        meters();
        billArguments();
        bills();
        lastTold();
        quarters();
        keptPlan();
        noPrice();
        c.end();
    }

    private static void evenings() {
        LightsMarket x = new LightsMarket();
        c.due("none", 0, () -> x.evenings(0));
        c.refused("-1", () -> x.evenings(-1));
        c.refused("100", () -> x.evenings(100));
        c.refused("far off", () -> x.evenings(Integer.MAX_VALUE));
        c.refused("far below", () -> x.evenings(Integer.MIN_VALUE));
        c.due("40", 40, () -> x.evenings(40));
        c.refused("60 more", () -> x.evenings(60));
        c.due("59 more", 99, () -> x.evenings(59));
        c.refused("one more", () -> x.evenings(1));
        c.due("TONIGHT", 99, () -> x.evenings(0));
        c.due("count", 99, () -> x.count(0));
        LightsMarket y = new LightsMarket();
        c.due("99 at once", 99, () -> y.evenings(99));
    }

    private static void meters() {
        LightsMarket x = new LightsMarket();
        c.missing("no place", () -> x.meter(0, 0, 0));
        x.place();
        c.missing("place 1", () -> x.meter(1, 0, 0));
        c.missing("place -1", () -> x.meter(-1, 0, 0));
        c.missing("quarter 4", () -> x.meter(0, 4, 0));
        c.missing("quarter -1", () -> x.meter(0, -1, 0));
        c.missing("no quarter ahead of units", () -> x.meter(0, 4, 100));
        c.due("units -1", -1, () -> x.meter(0, 0, -1));
        c.due("units 100", -1, () -> x.meter(0, 0, 100));
        c.due("none was told", 0, () -> x.count(5));
        c.due("units 0", 1, () -> x.meter(0, 0, 0));
        c.due("units 99", 2, () -> x.meter(0, 3, 99));
        for (int i = 3; i <= 60; i++) {
            c.due("meter", i, () -> x.meter(0, 1, 1));
        }
        c.due("the 61st", -1, () -> x.meter(0, 1, 1));
        c.missing("no place ahead of too many", () -> x.meter(1, 1, 1));
        c.due("meters", 60, () -> x.count(5));
    }

    private static LightsMarket land() {
        LightsMarket x = new LightsMarket();
        Setup.places(x, 2);
        x.line(0, 1, 1, 3);
        x.sheet(0, 4);
        x.mill(0, 0, 0, 7, 2, 0, 0, 0, 0);
        x.mill(1, 0, 0, 7, 10, 0, 0, 0, 0);
        Setup.loads(x, 0, 0, 1, 2, 1, 0);
        Setup.loads(x, 0, 1, 4, 5, 0, 1);
        return x;
    }

    private static void billArguments() {
        LightsMarket x = land();
        c.due("nothing is kept", 0, () -> x.bill(0, 0));
        c.missing("no such place", () -> x.bill(2, 0));
        c.missing("place -1", () -> x.bill(-1, 0));
        c.refused("evening 1", () -> x.bill(0, 1));
        c.refused("evening -1", () -> x.bill(0, -1));
        c.missing("no such place ahead of no evening", () -> x.bill(2, 7));
        x.evenings(5);
        c.due("evening 5", 0, () -> x.bill(0, 5));
        c.refused("evening 6", () -> x.bill(0, 6));
        x.meter(0, 0, 9);
        c.due("a meter and no plan", 0, () -> x.bill(0, 5));
    }

    /** PRICES are 2 and 10 in each quarter where both are on. */
    private static void bills() {
        LightsMarket x = land();
        c.due("plan", 6 + 2 + 10 + 6 + 4 + 20, () -> x.plan(2, 3));
        c.due("loads of 0", 3 * 2, () -> x.bill(0, 0));
        c.due("loads of 1", 9 * 10, () -> x.bill(1, 0));
        x.meter(1, 0, 7);
        c.due("a meter of quarter 0", 12 * 10, () -> x.bill(1, 0));
        c.due("not of place 0", 3 * 2, () -> x.bill(0, 0));
        x.evenings(3);
        x.meter(1, 0, 0);
        c.due("as known on 0", 120, () -> x.bill(1, 0));
        c.due("as known on 2", 120, () -> x.bill(1, 2));
        c.due("as known on 3", 50, () -> x.bill(1, 3));
        x.meter(1, 1, 99);
        c.due("as known on 2", 120, () -> x.bill(1, 2));
        c.due("as known on 3", 990, () -> x.bill(1, 3));
    }

    private static void lastTold() {
        LightsMarket x = land();
        x.plan(1, 3);
        c.due("load", 40, () -> x.bill(1, 0));
        x.meter(1, 0, 5);
        x.meter(1, 0, 3);
        c.due("the last one told counts", 30, () -> x.bill(1, 0));
        x.evenings(1);
        x.meter(1, 0, 9);
        x.evenings(1);
        x.meter(1, 0, 4);
        x.meter(1, 0, 6);
        int[] due = {30, 90, 60};
        for (int k = 0; k < 3; k++) {
            int evening = k;
            c.due("as known on " + k, due[k], () -> x.bill(1, evening));
        }
    }

    /** Quarters that aren't in the plan don't count. */
    private static void quarters() {
        LightsMarket x = land();
        x.plan(2, 3);
        x.meter(0, 2, 50);
        x.meter(0, 3, 50);
        c.due("quarters 0 and 1", 6, () -> x.bill(0, 0));
        x.plan(3, 3);
        // in quarter 2 only what is needed is on, its price is 2
        c.due("quarter 2 too", 6 + 100, () -> x.bill(0, 0));
    }

    private static void keptPlan() {
        LightsMarket x = land();
        x.meter(0, 0, 8);
        x.plan(1, 3);
        c.due("a meter told ahead of the plan", 16, () -> x.bill(0, 0));
        Setup.loads(x, 0, 0, 9, 9, 9, 9);
        Setup.loads(x, 0, 1, 9, 9, 9, 9);
        Setup.offer(x, 0, "price 77;");
        c.due("loads and prices as planned", 40, () -> x.bill(1, 0));
        c.due("there is none", -1, () -> x.plan(1, 0));
        c.due("what was kept stays", 40, () -> x.bill(1, 0));
        x.meter(1, 0, 6);
        c.due("meters as they are told", 60, () -> x.bill(1, 0));
    }

    private static void noPrice() {
        LightsMarket x = new LightsMarket();
        x.place();
        x.sheet(0, 4);
        x.mill(0, 0, 0, 3, 5, 0, 0, 0, 0);
        Setup.loads(x, 0, 0, 3, 2, 3, 0);
        x.plan(2, 1);
        c.due("9999 if none", 3 * 9999 + 10, () -> x.bill(0, 0));
        x.meter(0, 0, 1);
        c.due("9999 once", 9999 + 10, () -> x.bill(0, 0));
    }
}
