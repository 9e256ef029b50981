/** Promises 28 to 30: THE WAY out of the dark. */
public final class WayTest {
    private static final Check c = new Check("WayTest");

    public static void main(String[] args) {
        arguments();
        nothing();
        startsAlone();
        byLines();
        needs();
        needsAtFirst();
        notMoreThanIsThere();
        reach();
        loadsOfNothing();
        firstOfLike();
        longest();
        kept();
        quarters();
        c.end();
    }

    private static void row(LightsMarket x, int quarter, int... want) {
        c.due("way", want.length, () -> x.way(quarter));
        acts(x, want);
    }

    private static void acts(LightsMarket x, int... want) {
        for (int i = 0; i < want.length; i++) {
            int k = i;
            c.due("act " + i, want[i], () -> x.act(k));
        }
        c.missing("the one behind the last", () -> x.act(want.length));
    }

    private static LightsMarket places(int... loads) {
        LightsMarket x = new LightsMarket();
        Setup.places(x, loads.length);
        x.sheet(0, 4);
        for (int p = 0; p < loads.length; p++) {
            Setup.loads(x, 0, p, loads[p], 0, loads[p], 0);
        }
        return x;
    }

    private static void arguments() {
        LightsMarket x = places(3);
        c.missing("starts of none", () -> x.starts(0, true, 0) ? 1 : 0);
        x.mill(0, 0, 0, 7, 1, 0, 0, 0, 0);
        c.missing("starts of 1", () -> x.starts(1, true, 0) ? 1 : 0);
        c.missing("starts of -1", () -> x.starts(-1, true, 0) ? 1 : 0);
        c.missing("no mill ahead of bad needs", () -> x.starts(1, true, 8) ? 1 : 0);
        c.no("needs -1", () -> x.starts(0, true, -1));
        c.no("needs 8", () -> x.starts(0, true, 8));
        c.due("nothing changed", -1, () -> x.way(0));
        c.yes("needs 0", () -> x.starts(0, false, 0));
        c.yes("needs 7", () -> x.starts(0, false, 7));
        c.missing("way in quarter 4", () -> x.way(4));
        c.missing("way in quarter -1", () -> x.way(-1));
        c.missing("none is kept", () -> x.act(0));
        c.missing("act -1", () -> x.act(-1));
        c.missing("act far off", () -> x.act(Integer.MAX_VALUE));
    }

    private static void nothing() {
        LightsMarket x = new LightsMarket();
        row(x, 0);
        x.place();
        c.due("a place that nothing lights", -1, () -> x.way(0));
        c.missing("none", () -> x.act(0));
    }

    private static void startsAlone() {
        LightsMarket x = places(3);
        x.mill(0, 0, 0, 7, 1, 0, 0, 0, 0);
        c.due("nothing starts alone", -1, () -> x.way(0));
        x.starts(0, true, 7);
        row(x, 0, 0, 9);
        x.starts(0, false, 0);
        c.due("not any more", -1, () -> x.way(0));
        acts(x, 0, 9);
        LightsMarket y = places(8);
        y.mill(0, 0, 0, 7, 1, 0, 0, 0, 0);
        y.starts(0, true, 0);
        c.due("more than it could make", -1, () -> y.way(0));
    }

    private static void byLines() {
        LightsMarket x = places(1, 1, 1);
        x.line(2, 1, 1, 0);
        x.line(1, 0, 1, 0);
        x.mill(0, 0, 0, 3, 1, 0, 0, 0, 0);
        x.starts(0, true, 0);
        // what lines could carry doesn't matter
        row(x, 0, 0, 5, 4, 9, 10, 11);
        LightsMarket y = places(1, 1, 1);
        y.line(0, 1, 1, 9);
        y.mill(0, 0, 0, 3, 1, 0, 0, 0, 0);
        y.starts(0, true, 0);
        c.due("place 2 is apart", -1, () -> y.way(0));
        y.mill(2, 0, 0, 3, 1, 0, 0, 0, 0);
        c.due("its mill doesn't start alone", -1, () -> y.way(0));
        y.starts(1, true, 0);
        row(y, 0, 0, 1, 4, 9, 10, 11);
    }

    private static void needs() {
        LightsMarket x = places(2, 4);
        x.line(0, 1, 1, 9);
        x.mill(0, 0, 0, 3, 1, 0, 0, 0, 0);
        x.mill(1, 0, 0, 5, 1, 0, 0, 0, 0);
        x.starts(0, true, 0);
        x.starts(1, false, 3);
        row(x, 0, 0, 4, 1, 9, 10);
        x.starts(1, false, 4);
        c.due("4 aren't there", -1, () -> x.way(0));
        x.starts(1, true, 4);
        row(x, 0, 0, 1, 9, 10);
        x.starts(1, false, 2);
        row(x, 0, 0, 4, 1, 9, 10);
    }

    /** A MILL needs 0 at first, but its PLACE must be LIT. */
    private static void needsAtFirst() {
        LightsMarket x = places(2, 4);
        x.line(0, 1, 1, 9);
        x.mill(0, 0, 0, 1, 1, 0, 0, 0, 0);
        x.mill(1, 0, 0, 5, 1, 0, 0, 0, 0);
        x.starts(0, true, 0);
        row(x, 0, 0, 4, 1, 9, 10);
        LightsMarket y = places(2);
        y.mill(0, 0, 0, 1, 1, 0, 0, 0, 0);
        y.mill(0, 0, 0, 1, 1, 0, 0, 0, 0);
        c.due("none is lit", -1, () -> y.way(0));
        y.starts(1, true, 0);
        row(y, 0, 1, 0, 9);
        y.starts(0, false, 1);
        row(y, 0, 1, 0, 9);
        y.starts(0, false, 2);
        c.due("only one is there", -1, () -> y.way(0));
    }

    /** Loads that are served take of what a mill needs: they come behind it. */
    private static void notMoreThanIsThere() {
        LightsMarket x = places(3, 3);
        x.line(0, 1, 1, 9);
        x.mill(0, 0, 0, 3, 1, 0, 0, 0, 0);
        x.mill(0, 0, 0, 3, 1, 0, 0, 0, 0);
        x.starts(0, true, 0);
        x.starts(1, false, 1);
        row(x, 0, 0, 1, 4, 9, 10);
        LightsMarket y = places(3, 4);
        y.line(0, 1, 1, 9);
        y.mill(0, 0, 0, 3, 1, 0, 0, 0, 0);
        y.mill(0, 0, 0, 3, 1, 0, 0, 0, 0);
        y.starts(0, true, 0);
        c.due("6 for 7", -1, () -> y.way(0));
        y.mill(1, 0, 0, 1, 1, 0, 0, 0, 0);
        row(y, 0, 0, 1, 4, 2, 9, 10);
    }

    private static void reach() {
        LightsMarket x = places(4);
        x.mill(0, 3, 0, 5, 1, 0, 0, 0, 0);
        x.starts(0, true, 0);
        c.due("no wind comes", -1, () -> x.way(0));
        Setup.comes(x, 0, 0, 3, 0, 4, 0);
        c.due("3 come", -1, () -> x.way(0));
        row(x, 2, 0, 9);
        Setup.comes(x, 0, 0, 7, 0, 7, 0);
        row(x, 0, 0, 9);
        LightsMarket y = places(5);
        y.mill(0, 3, 0, 4, 1, 0, 0, 0, 0);
        Setup.comes(y, 0, 0, 7, 7, 7, 7);
        y.starts(0, true, 0);
        c.due("no more than its most", -1, () -> y.way(0));
        LightsMarket z = places(5);
        z.mill(0, 2, 0, 5, 1, 0, 0, 0, 0);
        z.starts(0, true, 0);
        row(z, 0, 0, 9);
        LightsMarket v = places(5);
        v.mill(0, 1, 0, 5, 1, 5, 3, 0, 0);
        v.starts(0, true, 0);
        row(v, 0, 0, 9);
    }

    private static void loadsOfNothing() {
        LightsMarket x = places(0, 0);
        x.line(0, 1, 1, 9);
        x.mill(0, 3, 0, 1, 1, 0, 0, 0, 0);
        x.starts(0, true, 0);
        row(x, 0, 0, 4, 9, 10);
    }

    private static void firstOfLike() {
        LightsMarket x = places(1, 1);
        x.line(0, 1, 1, 9);
        x.line(1, 0, 1, 9);
        x.mill(1, 0, 0, 7, 1, 0, 0, 0, 0);
        x.mill(0, 0, 0, 7, 1, 0, 0, 0, 0);
        x.starts(0, true, 0);
        x.starts(1, true, 0);
        row(x, 0, 0, 1, 9, 10);
        x.starts(1, false, 0);
        row(x, 0, 0, 4, 9, 10);
        x.starts(0, false, 0);
        x.starts(1, true, 0);
        row(x, 0, 1, 4, 9, 10);
        LightsMarket y = places(1, 1, 1);
        y.line(0, 1, 1, 9);
        y.line(1, 2, 1, 9);
        y.line(0, 2, 1, 9);
        y.mill(1, 0, 0, 7, 1, 0, 0, 0, 0);
        y.starts(0, true, 0);
        row(y, 0, 0, 4, 5, 9, 10, 11);
    }

    private static void longest() {
        LightsMarket x = places(7, 7, 7, 7);
        x.line(3, 2, 1, 9);
        x.line(2, 1, 1, 9);
        x.line(1, 0, 1, 9);
        x.mill(3, 0, 0, 7, 1, 0, 0, 0, 0);
        x.mill(2, 0, 0, 7, 1, 0, 0, 0, 0);
        x.mill(1, 0, 0, 7, 1, 0, 0, 0, 0);
        x.mill(0, 0, 0, 7, 1, 0, 0, 0, 0);
        x.starts(0, true, 0);
        row(x, 0, 0, 4, 1, 5, 2, 6, 3, 9, 10, 11, 12);
        x.starts(1, false, 7);
        x.starts(2, false, 7);
        x.starts(3, false, 7);
        row(x, 0, 0, 4, 1, 5, 2, 6, 3, 9, 10, 11, 12);
    }

    private static void kept() {
        LightsMarket x = places(3);
        x.mill(0, 0, 0, 7, 1, 0, 0, 0, 0);
        x.starts(0, true, 0);
        row(x, 0, 0, 9);
        c.missing("act 2", () -> x.act(2));
        x.place();
        c.due("place 1 is apart", -1, () -> x.way(0));
        acts(x, 0, 9);
        c.missing("no such quarter", () -> x.way(4));
        acts(x, 0, 9);
        x.line(0, 1, 1, 1);
        row(x, 0, 0, 4, 9, 10);
    }

    private static void quarters() {
        LightsMarket x = places(8);
        x.mill(0, 0, 0, 7, 1, 0, 0, 0, 0);
        x.starts(0, true, 0);
        c.due("quarter 0", -1, () -> x.way(0));
        row(x, 1, 0, 9);
        c.due("quarter 2", -1, () -> x.way(2));
        row(x, 3, 0, 9);
    }
}
