/** Promises 17 to 20: THE BEST, what is planned, PRICES, PAY. */
public final class PlanTest {
    private static final Check c = new Check("PlanTest");

    public static void main(String[] args) {
        arguments();
        nothingKept();
        starts();
        startQuarters();
        fourOn();
        waiting();
        onAtFirst();
        lake();
        lakeOverflows();
        lakeAhead();
        likeOnes();
        prices();
        strangePrices();
        pricesKeepOn();
        pay();
        wholes();
        linesEarn();
        snapshot();
        laterOnes();
        noneKeeps();
        c.end();
    }

    private static LightsMarket one(int a, int b, int d, int e) {
        LightsMarket x = new LightsMarket();
        x.place();
        x.sheet(0, 4);
        Setup.loads(x, 0, 0, a, b, d, e);
        return x;
    }

    private static void planned(LightsMarket x, int what, int... want) {
        for (int q = 0; q < 4; q++) {
            int quarter = q;
            int due = q < want.length ? want[q] : -1;
            c.due("planned(" + q + ", " + what + ")", due, () -> x.planned(quarter, what));
        }
    }

    private static void price(LightsMarket x, int place, int... want) {
        for (int q = 0; q < 4; q++) {
            int quarter = q;
            int due = q < want.length ? want[q] : -1;
            c.due("price(" + place + ", " + q + ")", due, () -> x.price(place, quarter));
        }
    }

    private static void pays(LightsMarket x, int mill, int pay, int coin, int whole) {
        c.due("PAY of " + mill, pay, () -> x.pays(mill, 0));
        c.due("COIN of " + mill, coin, () -> x.pays(mill, 1));
        c.due("WHOLE of " + mill, whole, () -> x.pays(mill, 2));
    }

    private static void arguments() {
        LightsMarket x = one(1, 1, 1, 1);
        x.mill(0, 3, 0, 7, 1, 0, 0, 0, 0);
        c.refused("plan of none", () -> x.plan(0, 0));
        c.refused("plan of five", () -> x.plan(5, 0));
        c.refused("plan of -1", () -> x.plan(-1, 0));
        c.missing("planned in quarter 4", () -> x.planned(4, 0));
        c.missing("planned in quarter -1", () -> x.planned(-1, 0));
        c.missing("planned 2", () -> x.planned(0, 2));
        c.missing("planned 3", () -> x.planned(0, 3));
        c.missing("planned -1", () -> x.planned(0, -1));
        c.missing("planned of no mill", () -> x.planned(0, 5));
        c.missing("planned far off", () -> x.planned(0, Integer.MAX_VALUE));
        c.missing("planned far below", () -> x.planned(0, Integer.MIN_VALUE));
        c.missing("price of no place", () -> x.price(1, 0));
        c.missing("price of -1", () -> x.price(-1, 0));
        c.missing("price in quarter 4", () -> x.price(0, 4));
        c.missing("price in quarter -1", () -> x.price(0, -1));
        c.missing("pays of no mill", () -> x.pays(1, 0));
        c.missing("pays of -2", () -> x.pays(-2, 0));
        c.missing("pays 3", () -> x.pays(0, 3));
        c.missing("pays -1", () -> x.pays(0, -1));
        c.missing("lines 1", () -> x.pays(-1, 1));
        c.missing("lines -1", () -> x.pays(-1, -1));
    }

    private static void nothingKept() {
        LightsMarket x = one(1, 1, 1, 1);
        x.mill(0, 3, 0, 7, 1, 0, 0, 0, 0);
        planned(x, 0);
        planned(x, 1);
        planned(x, 4);
        price(x, 0);
        pays(x, 0, 0, 0, 0);
        c.due("lines earn nothing", 0, () -> x.pays(-1, 0));
        c.due("quarters", 0, () -> x.count(6));
        c.due("there is none", -1, () -> x.plan(1, 0));
        c.due("quarters still", 0, () -> x.count(6));
        LightsMarket y = new LightsMarket();
        c.due("an empty land's plan", 0, () -> y.plan(4, 15));
        c.due("its quarters", 4, () -> y.count(6));
        planned(y, 0, 0, 0, 0, 0);
        c.due("its lines", 0, () -> y.pays(-1, 0));
    }

    private static void starts() {
        LightsMarket x = one(2, 2, 2, 2);
        x.mill(0, 0, 0, 7, 10, 0, 1, 100, 0);
        x.mill(0, 0, 0, 7, 30, 0, 0, 0, 0);
        c.due("a start in quarter 1", 60 + 100 + 3 * 20, () -> x.plan(4, 0));
        planned(x, 0, 2, 1, 1, 1);
        planned(x, 1, 60, 20, 20, 20);
        planned(x, 4, 0, 2, 2, 2);
        planned(x, 5, 2, 0, 0, 0);
        c.due("three aren't worth a start", 180, () -> x.plan(3, 0));
        planned(x, 0, 2, 2, 2);
        c.due("on at first", 80, () -> x.plan(4, 1));
        planned(x, 0, 1, 1, 1, 1);
        c.due("on at first for one", 20, () -> x.plan(1, 1));
        planned(x, 0, 1);
        c.due("not on at first for one", 60, () -> x.plan(1, 0));
        c.due("quarters", 1, () -> x.count(6));
        pays(x, 1, 60, 60, 0);
    }

    private static void startQuarters() {
        for (int toStart = 0; toStart < 4; toStart++) {
            LightsMarket x = one(0, 0, 0, 0);
            x.mill(0, toStart % 2, 0, 7, 1, 0, toStart, 5, 0);
            x.mill(0, 0, 0, 7, 900, 0, 0, 0, 0);
            Setup.loads(x, 0, 0, 1, 1, 1, 1);
            c.due("to start " + toStart, 900 * toStart + 5 + 4 - toStart, () -> x.plan(4, 0));
            int[] on = new int[4];
            for (int q = 0; q < 4; q++) {
                on[q] = q < toStart ? 2 : 1;
            }
            planned(x, 0, on);
        }
        LightsMarket y = one(1, 1, 1, 1);
        y.mill(0, 0, 0, 7, 1, 0, 1, 0, 0);
        c.due("it can't be on in quarter 0", -1, () -> y.plan(1, 0));
        c.due("nor in four", -1, () -> y.plan(4, 0));
        c.due("on at first it is", 4, () -> y.plan(4, 1));
    }

    private static void fourOn() {
        LightsMarket x = one(4, 3, 0, 0);
        for (int m = 0; m < 4; m++) {
            x.mill(0, m % 2, 0, 1, m, 0, 0, 5, m % 2);
        }
        c.due("four have to be on; three would do then, but waiting costs", 6 + 3 * 5 + 3, () -> x.plan(2, 8));
        planned(x, 0, 15, 15);
        planned(x, 1, 6, 3);
        planned(x, 7, 1, 0);
        price(x, 0, -1, 3);
    }

    private static void waiting() {
        LightsMarket x = one(2, 0, 2, 0);
        x.mill(0, 1, 0, 7, 1, 1, 0, 10, 3);
        c.due("off and on", 2 + 3 + 10 + 2 + 3, () -> x.plan(4, 1));
        planned(x, 0, 1, 0, 1, 0);
        planned(x, 1, 2, 0, 2, 0);
        planned(x, 4, 2, 0, 2, 0);
        pays(x, 0, 2 + 2, 20, 16);
        c.due("a start at once", 30, () -> x.plan(4, 0));
        LightsMarket y = one(2, 0, 2, 0);
        y.mill(0, 1, 0, 7, 1, 0, 0, 10, 3);
        c.due("on all along is cheaper than waiting", 4, () -> y.plan(4, 1));
        planned(y, 0, 1, 1, 1, 1);
        LightsMarket z = one(2, 0, 2, 0);
        z.mill(0, 0, 0, 7, 1, 1, 0, 10, 0);
        c.due("a slow one doesn't wait", 2 + 10 + 2, () -> z.plan(4, 1));
    }

    private static void onAtFirst() {
        LightsMarket x = one(2, 2, 2, 2);
        x.mill(0, 3, 0, 1, 0, 0, 0, 0, 0);
        x.mill(0, 0, 0, 7, 10, 0, 0, 50, 0);
        for (int other : new int[] {0, 1, 4, 8, 16, Integer.MIN_VALUE, -3}) {
            c.due("off with " + other, 70, () -> x.plan(1, other & -3));
            c.due("on with " + other, 20, () -> x.plan(1, other | 2));
            planned(x, 0, 2);
        }
    }

    private static void lake() {
        LightsMarket x = one(1, 3, 3, 0);
        x.mill(0, 2, 0, 3, 0, 2, 1, 0, 0);
        x.mill(0, 0, 0, 7, 10, 0, 0, 0, 0);
        c.due("four of seven come from the lake", 30, () -> x.plan(3, 2));
        planned(x, 0, 0, 2, 0);
        planned(x, 4, 1, 0, 3);
        planned(x, 5, 0, 3, 0);
        planned(x, 1, 0, 30, 0);
        LightsMarket y = one(3, 3, 0, 0);
        y.mill(0, 2, 0, 7, 5, 2, 0, 0, 0);
        c.due("no more than is in it", -1, () -> y.plan(1, 0));
        LightsMarket z = one(3, 3, 4, 0);
        z.mill(0, 2, 0, 7, 5, 3, 3, 0, 0);
        c.due("the stream comes behind each quarter", 30, () -> z.plan(2, 0));
        c.due("and is three", -1, () -> z.plan(3, 0));
    }

    private static void lakeOverflows() {
        LightsMarket x = one(0, 7, 7, 4);
        x.mill(0, 2, 0, 7, 0, 15, 1, 0, 0);
        x.mill(0, 0, 0, 7, 10, 0, 0, 0, 0);
        c.due("what is above 15 flows off", 10, () -> x.plan(4, 2));
        LightsMarket y = one(0, 7, 7, 4);
        y.mill(0, 2, 0, 7, 0, 14, 1, 0, 0);
        y.mill(0, 0, 0, 7, 10, 0, 0, 0, 0);
        c.due("15 stay", 10, () -> y.plan(4, 2));
        LightsMarket z = one(0, 7, 7, 3);
        z.mill(0, 2, 0, 7, 0, 13, 2, 0, 0);
        z.mill(0, 0, 0, 7, 10, 0, 0, 0, 0);
        c.due("with a stream of 2", 0, () -> z.plan(4, 2));
    }

    /** Water is kept for the dear quarter. */
    private static void lakeAhead() {
        LightsMarket x = one(2, 2, 0, 0);
        x.mill(0, 2, 0, 7, 1, 2, 0, 0, 0);
        x.mill(0, 0, 0, 7, 1, 0, 0, 0, 0);
        Setup.offer(x, 1, "price 10 + 90 * quarter;");
        c.due("the dear quarter gets it", 20 + 2, () -> x.plan(2, 2));
        planned(x, 4, 0, 2);
        planned(x, 0, 2, 0);
    }

    private static void likeOnes() {
        LightsMarket x = one(1, 1, 0, 0);
        x.mill(0, 0, 0, 1, 5, 0, 0, 0, 0);
        x.mill(0, 0, 0, 1, 5, 0, 0, 0, 0);
        x.mill(0, 0, 0, 1, 5, 0, 0, 0, 0);
        c.due("the lesser number of like ones", 10, () -> x.plan(2, 7));
        planned(x, 0, 1, 1);
        planned(x, 4, 1, 1);
        LightsMarket y = one(1, 1, 0, 0);
        y.mill(0, 0, 0, 1, 5, 0, 1, 0, 0);
        y.mill(0, 0, 0, 1, 5, 0, 0, 0, 0);
        c.due("a start that costs nothing", 10, () -> y.plan(2, 0));
        planned(y, 0, 2, 1);
        LightsMarket z = one(1, 1, 1, 0);
        z.mill(0, 2, 0, 7, 5, 1, 0, 0, 0);
        z.mill(0, 0, 0, 1, 5, 0, 0, 0, 0);
        c.due("less on, then less water", 15, () -> z.plan(3, 2));
        planned(z, 0, 0, 2, 2);
        planned(z, 4, 1, 0, 0);
        LightsMarket v = one(2, 2, 0, 0);
        v.mill(0, 2, 0, 7, 5, 2, 0, 0, 0);
        v.mill(0, 0, 0, 1, 5, 1, 0, 0, 0);
        c.due("less water of like ones", 20, () -> v.plan(2, 2));
        planned(v, 0, 2, 2);
        planned(v, 4, 1, 1);
        LightsMarket u = one(3, 3, 0, 0);
        u.mill(0, 2, 0, 7, 5, 3, 0, 0, 0);
        u.mill(0, 0, 0, 7, 5, 1, 0, 0, 0);
        c.due("the first of them", 30, () -> u.plan(2, 2));
        planned(u, 0, 0, 2);
        planned(u, 4, 3, 0);
    }

    private static LightsMarket twoCosts(int... load) {
        LightsMarket x = one(load[0], load[1], load[2], load[3]);
        x.mill(0, 0, 0, 3, 10, 0, 0, 0, 0);
        x.mill(0, 0, 1, 3, 30, 0, 0, 0, 0);
        return x;
    }

    private static void prices() {
        LightsMarket x = twoCosts(2, 4, 6, 0);
        // with both on all is met, but for one more than six
        c.due("plan", 20 + 60 + 120, () -> x.plan(4, 3));
        planned(x, 0, 1, 3, 3, 0);
        price(x, 0, 10, 30, -1, -1);
        pays(x, 0, 20 + 90 + 3 * 9999, 20 + 30 + 30, 0);
        pays(x, 1, 30 + 3 * 9999, 30 + 90, 0);
        c.due("lines", 0, () -> x.pays(-1, 0));
    }

    private static void strangePrices() {
        LightsMarket x = one(3, 3, 3, 3);
        x.mill(0, 0, 0, 7, 1, 0, 0, 0, 0);
        Setup.offer(x, 0, "price 100 - load * 20;");
        c.due("three at 40", 120, () -> x.plan(1, 1));
        price(x, 0, 80 - 120);
        pays(x, 0, -120, 120, 240);
        Setup.offer(x, 0, "price (load = 3) * 7 + (load = 4) * 5;");
        c.due("three at 7, four at 5", 21, () -> x.plan(1, 1));
        price(x, 0, -1);
        pays(x, 0, -3, 21, 24);
        c.due("lines", 0, () -> x.pays(-1, 0));
        c.due("a bill of a price that is -1", -3, () -> x.bill(0, 0));
        Setup.offer(x, 0, "price 7; when load < 4;");
        c.due("three at 7, four can't be", 21, () -> x.plan(1, 1));
        price(x, 0, -1);
        pays(x, 0, 29997, 21, 0);
        c.due("a bill without a price", 29997, () -> x.bill(0, 0));
        Setup.offer(x, 0, "price 9999;");
        c.due("dear", 29997, () -> x.plan(1, 1));
        price(x, 0, 9999);
        LightsMarket y = one(1, 0, 0, 0);
        y.mill(0, 0, 0, 1, 1, 1, 0, 0, 0);
        y.mill(0, 0, 0, 7, 50, 2, 0, 0, 0);
        c.due("a least that is in the way", 1, () -> y.plan(1, 3));
        price(y, 0, -1);
    }

    /** The same ON, w as it is: a mill that is off isn't turned on, the lake isn't let down more. */
    private static void pricesKeepOn() {
        LightsMarket x = one(3, 0, 0, 0);
        x.mill(0, 0, 0, 3, 10, 0, 0, 0, 0);
        x.mill(0, 1, 1, 3, 30, 0, 0, 0, 0);
        x.mill(0, 2, 1, 3, 1, 0, 0, 0, 0);
        c.due("one is off, being the lesser number", 30, () -> x.plan(1, 3));
        planned(x, 0, 1);
        price(x, 0, -1);
        LightsMarket y = one(3, 0, 0, 0);
        y.mill(0, 0, 0, 7, 10, 0, 0, 0, 0);
        y.mill(0, 2, 1, 7, 1, 15, 0, 0, 0);
        Setup.offer(y, 0, "price 10; when 3 < load;");
        c.due("water alone", 3, () -> y.plan(1, 1));
        planned(y, 5, 3);
        planned(y, 0, 0);
        price(y, 0, -1);
        LightsMarket z = one(3, 0, 0, 0);
        z.mill(0, 0, 0, 7, 10, 1, 0, 0, 0);
        z.mill(0, 2, 1, 2, 1, 15, 0, 0, 0);
        c.due("water and one", 12, () -> z.plan(1, 1));
        price(z, 0, 10);
    }

    private static void pay() {
        LightsMarket x = new LightsMarket();
        Setup.places(x, 2);
        x.line(0, 1, 1, 3);
        x.sheet(0, 4);
        x.mill(0, 0, 0, 7, 1, 0, 0, 0, 0);
        x.mill(1, 1, 1, 7, 9, 0, 0, 40, 0);
        Setup.loads(x, 0, 1, 5, 3, 2, 0);
        c.due("plan", 3 + 18 + 3, () -> x.plan(2, 3));
        planned(x, 0, 3, 1);
        price(x, 0, 1, 1);
        price(x, 1, 9, -1);
        pays(x, 0, 3 + 3, 6, 0);
        pays(x, 1, 18, 18, 0);
        c.due("lines", 45 + 3 * 9999 - 3 - 3 - 18, () -> x.pays(-1, 0));
        c.due("with a start", 3 + 18 + 3 + 40, () -> x.plan(2, 1));
        pays(x, 1, 18, 58, 40);
    }

    private static void wholes() {
        LightsMarket x = one(3, 0, 0, 0);
        x.mill(0, 0, 0, 7, 7, 0, 0, 33, 0);
        int[] wholes = {100, 0, 1, 3, 4, 33, 50, 99};
        int[] due = {33, 0, 0, 0, 1, 10, 16, 32};
        for (int i = 0; i < wholes.length; i++) {
            x.rules(false, 0, wholes[i]);
            c.due("plan", 21 + 33, () -> x.plan(1, 0));
            pays(x, 0, 21, 54, due[i]);
        }
        x.rules(false, 0, 100);
        pays(x, 0, 21, 54, 32);
        c.due("plan without a start", 21, () -> x.plan(1, 1));
        pays(x, 0, 21, 21, 0);
        LightsMarket y = one(7, 6, 0, 0);
        y.mill(0, 0, 0, 7, 5, 0, 0, 9, 0);
        Setup.offer(y, 0, "price unit;");
        c.due("seven units, then six", 9 + 28 + 21, () -> y.plan(2, 0));
        price(y, 0, -1, 7);
        pays(y, 0, 7 * 9999 + 42, 9 + 28 + 21, 0);
    }

    private static void linesEarn() {
        LightsMarket x = new LightsMarket();
        Setup.places(x, 2);
        x.line(0, 1, 1, 3);
        x.sheet(0, 4);
        x.mill(0, 0, 0, 7, 1, 0, 0, 0, 0);
        x.mill(1, 0, 1, 7, 9, 0, 0, 0, 0);
        Setup.loads(x, 0, 1, 5, 4, 5, 5);
        Setup.loads(x, 0, 0, 1, 0, 0, 0);
        c.due("plan", 4 + 18 + 3 + 9, () -> x.plan(2, 3));
        price(x, 0, 1, 1);
        price(x, 1, 9, 9);
        pays(x, 0, 4 + 3, 7, 0);
        pays(x, 1, 18 + 9, 27, 0);
        c.due("lines earn what parts the prices", 3 * 8 + 3 * 8, () -> x.pays(-1, 0));
        x.plan(1, 3);
        c.due("of one quarter", 3 * 8, () -> x.pays(-1, 0));
        x.plan(2, 3);
        c.due("of two again", 3 * 8 + 3 * 8, () -> x.pays(-1, 0));
    }

    private static void snapshot() {
        LightsMarket x = twoCosts(2, 4, 6, 0);
        x.mill(0, 3, 2, 2, 0, 0, 0, 0, 0);
        x.rules(false, 0, 50);
        Setup.offer(x, 1, "price 30;");
        x.plan(2, 0);
        for (int i = 0; i < 2; i++) {
            planned(x, 0, 1, 3);
            planned(x, 1, 20, 60);
            planned(x, 4, 2, 3);
            planned(x, 5, 0, 1);
            planned(x, 6, 0, 0);
            price(x, 0, 10, 30);
            pays(x, 0, 20 + 90, 50, 0);
            pays(x, 1, 30, 30, 0);
            c.due("lines", 20 + 120 - 110 - 30, () -> x.pays(-1, 0));
            c.due("bill", 20 + 120, () -> x.bill(0, 0));
            Setup.loads(x, 0, 0, 9, 9, 9, 9);
            Setup.comes(x, 0, 2, 2, 2, 2, 2);
            Setup.offer(x, 0, "price 77;");
            x.rules(true, 9, 10);
            x.place();
            x.least(0, 7, 0);
            x.game(0);
        }
    }

    private static void laterOnes() {
        LightsMarket x = twoCosts(2, 2, 6, 0);
        x.plan(4, 3);
        x.place();
        x.line(0, 1, 1, 9);
        x.mill(1, 0, 0, 7, 1, 0, 0, 0, 0);
        price(x, 1);
        planned(x, 6, 0, 0, 0, 0);
        pays(x, 2, 0, 0, 0);
        c.due("its bill", 0, () -> x.bill(1, 0));
        x.meter(1, 0, 9);
        c.due("its bill with a meter", 0, () -> x.bill(1, 0));
        c.missing("a mill that isn't there", () -> x.planned(0, 7));
        c.due("plan with it", 2 + 2 + 6, () -> x.plan(4, 7));
        planned(x, 6, 2, 2, 6, 0);
        price(x, 1, 1, 1, 1, -1);
    }

    private static void noneKeeps() {
        LightsMarket x = twoCosts(2, 4, 6, 7);
        c.due("plan", 20, () -> x.plan(1, 3));
        c.due("there is none of four", -1, () -> x.plan(4, 3));
        c.due("quarters", 1, () -> x.count(6));
        planned(x, 0, 1);
        planned(x, 1, 20);
        price(x, 0, 10);
        c.refused("plan of five", () -> x.plan(5, 3));
        planned(x, 1, 20);
        c.due("of three there is one", 200, () -> x.plan(3, 3));
        c.due("quarters", 3, () -> x.count(6));
        planned(x, 1, 20, 60, 120);
        c.due("of one again", 20, () -> x.plan(1, 3));
        planned(x, 1, 20);
        price(x, 0, 10);
        pays(x, 1, 0, 0, 0);
        pays(x, 0, 20, 20, 0);
        c.due("bill", 20, () -> x.bill(0, 0));
    }
}
