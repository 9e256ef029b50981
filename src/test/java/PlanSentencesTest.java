/** A test of its own for each sentence on PLANS, PRICES and PAY that names an edge (promises 17 to 20). */
public final class PlanSentencesTest {
    private static final Check c = new Check("PlanSentencesTest");
    private static final int LOWEST = Integer.MIN_VALUE;
    private static final int HIGHEST = Integer.MAX_VALUE;

    public static void main(String[] args) {
        quartersOfPlan();
        water();
        onAtFirst();
        starts();
        staysOn();
        coin();
        likeOnes();
        prices();
        pay();
        wholes();
        linesEarn();
        asItWas();
        laterOnes();
        plan();
        planned();
        price();
        pays();
        c.end();
    }

    private static LightsMarket one(int a, int b, int d, int e) {
        LightsMarket x = new LightsMarket();
        x.place();
        x.sheet(0, 4);
        Setup.loads(x, 0, 0, a, b, d, e);
        return x;
    }

    /** What is planned in QUARTERS from 0 on; NONE in those behind. */
    private static void planned(LightsMarket x, int what, int... want) {
        for (int q = 0; q < 4; q++) {
            int quarter = q;
            int due = q < want.length ? want[q] : -1;
            c.due("planned(" + q + ", " + what + ")", due, () -> x.planned(quarter, what));
        }
    }

    private static void price(LightsMarket x, int place, int... want) {
        for (int q = 0; q < 4; q++) {
            int quarter = q;
            int due = q < want.length ? want[q] : -1;
            c.due("price(" + place + ", " + q + ")", due, () -> x.price(place, quarter));
        }
    }

    private static void pays(LightsMarket x, int mill, int pay, int coin, int whole) {
        c.due("PAY of " + mill, pay, () -> x.pays(mill, 0));
        c.due("COIN of " + mill, coin, () -> x.pays(mill, 1));
        c.due("WHOLE of " + mill, whole, () -> x.pays(mill, 2));
    }

    private static void quartersOfPlan() {
        c.sentence("A PLAN for the QUARTERS 0 to n - 1 (n 1 to 4)", () -> {
            LightsMarket x = one(1, 2, 3, 4);
            x.mill(0, 0, 0, 7, 1, 0, 0, 0, 0);
            int[] want = {1, 3, 6, 10};
            for (int n = 1; n <= 4; n++) {
                int many = n;
                c.due("plan of " + n, want[n - 1], () -> x.plan(many, 1));
                c.due("its QUARTERS", n, () -> x.count(6));
                c.due("the last one", n, () -> x.planned(many - 1, 1));
                if (n < 4) {
                    c.due("the one behind", -1, () -> x.planned(many, 1));
                }
            }
        });
    }

    private static void water() {
        c.sentence("what WATER gives (0 to its most", () -> {
            LightsMarket x = one(3, 0, 0, 0);
            x.mill(0, 2, 0, 2, 0, 15, 0, 0, 0);
            c.due("3 of 2", -1, () -> x.plan(1, 0));
            x.mill(0, 0, 0, 7, 10, 0, 0, 0, 0);
            c.due("2 and 1", 10, () -> x.plan(1, 2));
            planned(x, 4, 2);
            Setup.offer(x, 0, "price 11;");
            c.due("0, being dear", 30, () -> x.plan(1, 2));
            planned(x, 4, 0);
        });
        c.sentence("no more than is in the lake", () -> {
            LightsMarket x = one(3, 0, 0, 0);
            x.mill(0, 2, 0, 7, 0, 2, 7, 0, 0);
            c.due("3 of 2, the stream comes later", -1, () -> x.plan(1, 0));
            Setup.loads(x, 0, 0, 2, 7, 7, 7);
            c.due("2 of 2", 0, () -> x.plan(1, 0));
            c.due("then 7 each time", 0, () -> x.plan(4, 0));
            planned(x, 4, 2, 7, 7, 7);
        });
        c.sentence("behind each QUARTER the stream comes", () -> {
            LightsMarket x = one(0, 3, 2, 4);
            x.mill(0, 2, 0, 7, 0, 0, 3, 0, 0);
            c.due("3, 3 and 3", 0, () -> x.plan(4, 0));
            Setup.loads(x, 0, 0, 0, 3, 2, 5);
            c.due("one more in all", -1, () -> x.plan(4, 0));
            Setup.loads(x, 0, 0, 0, 4, 0, 0);
            c.due("one more in QUARTER 1", -1, () -> x.plan(4, 0));
            Setup.loads(x, 0, 0, 1, 0, 0, 0);
            c.due("any in QUARTER 0", -1, () -> x.plan(1, 0));
        });
        c.sentence("what is above 15 flows off", () -> {
            LightsMarket x = one(0, 7, 7, 3);
            x.mill(0, 2, 0, 7, 0, 15, 1, 0, 0);
            c.due("15, 9, 3", 0, () -> x.plan(4, 0));
            Setup.loads(x, 0, 0, 0, 7, 7, 4);
            c.due("not 4", -1, () -> x.plan(4, 0));
            Setup.loads(x, 0, 0, 1, 7, 7, 3);
            c.due("15 again behind QUARTER 0", 0, () -> x.plan(4, 0));
            LightsMarket y = one(0, 7, 7, 3);
            y.mill(0, 2, 0, 7, 0, 14, 1, 0, 0);
            c.due("15 don't flow off", 0, () -> y.plan(4, 0));
            Setup.loads(y, 0, 0, 1, 7, 7, 3);
            c.due("14 behind QUARTER 0", -1, () -> y.plan(4, 0));
        });
    }

    private static void onAtFirst() {
        c.sentence("ON at first are those told.", () -> {
            LightsMarket x = one(2, 2, 0, 0);
            x.mill(0, 0, 0, 7, 1, 0, 3, 50, 0);
            c.due("not told: it can't start", -1, () -> x.plan(2, 0));
            c.due("told", 4, () -> x.plan(2, 1));
            pays(x, 0, 4, 4, 0);
        });
        c.sentence("those ON at first (bits likewise)", () -> {
            LightsMarket x = one(2, 0, 0, 0);
            x.mill(0, 3, 0, 1, 1, 0, 0, 0, 0);
            x.mill(0, 0, 0, 7, 1, 0, 0, 50, 0);
            for (int other : new int[] {0, 1, 4, 8, 16, -3, LOWEST, HIGHEST - 2}) {
                c.due("told with " + other, 2, () -> x.plan(1, other | 2));
                planned(x, 0, 2);
                c.due("not told with " + other, 52, () -> x.plan(1, other & -3));
                planned(x, 0, 2);
            }
        });
        c.sentence("Any may be off.", () -> {
            LightsMarket x = one(1, 1, 0, 0);
            x.mill(0, 0, 0, 7, 1, 2, 0, 0, 0);
            x.mill(0, 1, 0, 7, 5, 0, 0, 0, 0);
            c.due("its least is too much: off at once", 10, () -> x.plan(2, 3));
            planned(x, 0, 2, 2);
            Setup.loads(x, 0, 0, 0, 0, 0, 0);
            c.due("all off", 0, () -> x.plan(4, 3));
            planned(x, 0, 0, 0, 0, 0);
        });
    }

    private static void starts() {
        c.sentence("if that QUARTER's number is at least its QUARTERS to start", () -> {
            for (int toStart = 0; toStart < 4; toStart++) {
                for (int q = 0; q < 4; q++) {
                    LightsMarket x = one(q == 0 ? 1 : 0, q == 1 ? 1 : 0, q == 2 ? 1 : 0, q == 3 ? 1 : 0);
                    x.mill(0, toStart % 2, 0, 1, 5, 1, toStart, 7, 0);
                    boolean can = q >= toStart;
                    c.due("to start " + toStart + ", needed in " + q, can ? 12 : -1, () -> x.plan(4, 0));
                }
            }
        });
        c.sentence("A MILL that isn't ON ahead of a QUARTER may be from it on", () -> {
            LightsMarket x = one(1, 0, 1, 0);
            x.mill(0, 0, 0, 1, 5, 1, 2, 7, 0);
            c.due("ON at first, off, and on again in 2", 5 + 7 + 5, () -> x.plan(4, 1));
            planned(x, 0, 1, 0, 1, 0);
            Setup.loads(x, 0, 0, 0, 1, 0, 0);
            c.due("off in 0, it can't be on in 1", -1, () -> x.plan(4, 1));
            Setup.loads(x, 0, 0, 1, 1, 0, 0);
            c.due("on all along it can", 10, () -> x.plan(4, 1));
        });
        c.sentence("that is a start", () -> {
            LightsMarket x = one(1, 1, 0, 1);
            x.mill(0, 0, 0, 1, 5, 1, 0, 7, 0);
            c.due("two starts", 15 + 14, () -> x.plan(4, 0));
            c.due("one", 15 + 7, () -> x.plan(4, 1));
            c.due("a QUARTER on, none behind", 5 + 7, () -> x.plan(1, 0));
        });
    }

    private static void staysOn() {
        c.sentence("A MILL that isn't ON ahead of a QUARTER", () -> {
            LightsMarket x = one(1, 1, 1, 1);
            x.mill(0, 0, 0, 7, 10, 0, 0, 0, 0);
            x.mill(0, 0, 0, 7, 1, 0, 1, 15, 0);
            c.due("one start, then it is ON", 10 + 15 + 3, () -> x.plan(4, 1));
            planned(x, 0, 1, 2, 2, 2);
            pays(x, 1, 3, 18, 15);
        });
    }

    private static void coin() {
        c.sentence("COIN of a PLAN: THE LEAST of each QUARTER, coin for starts, and for READY ones that aren't ON.", () -> {
            LightsMarket x = one(0, 2, 0, 0);
            x.mill(0, 1, 0, 7, 10, 1, 0, 100, 3);
            x.mill(0, 0, 0, 7, 10, 1, 3, 100, 0);
            c.due("THE LEAST 20, a start 100, 3 times 3", 129, () -> x.plan(4, 0));
            planned(x, 0, 0, 1, 0, 0);
            planned(x, 1, 0, 20, 0, 0);
            pays(x, 0, 20, 129, 109);
            pays(x, 1, 0, 0, 0);
            c.due("ON at first and off: no start, it waits", 3, () -> x.plan(1, 1));
        });
    }

    private static void likeOnes() {
        c.sentence("least COIN, of like ones the first as a row", () -> {
            LightsMarket x = one(1, 1, 1, 1);
            x.mill(0, 0, 0, 1, 5, 0, 0, 0, 0);
            x.mill(0, 0, 0, 1, 5, 0, 0, 0, 0);
            c.due("bits 1, not 2 nor 3", 20, () -> x.plan(4, 3));
            planned(x, 0, 1, 1, 1, 1);
            x.mill(0, 0, 0, 1, 4, 0, 0, 0, 0);
            c.due("less COIN is ahead of lesser bits", 16, () -> x.plan(4, 3));
            planned(x, 0, 4, 4, 4, 4);
        });
        c.sentence("QUARTER by QUARTER the ON ones as bits (the lesser number), then w", () -> {
            LightsMarket x = one(1, 1, 0, 0);
            x.mill(0, 0, 0, 1, 5, 1, 0, 0, 0);
            x.mill(0, 2, 0, 1, 5, 1, 0, 0, 0);
            c.due("no bits with w 1 ahead of bit 0 with w 0", 10, () -> x.plan(2, 0));
            planned(x, 0, 0, 1);
            planned(x, 5, 1, 0);
            LightsMarket y = one(2, 2, 0, 0);
            y.mill(0, 0, 0, 2, 5, 1, 0, 0, 0);
            y.mill(0, 2, 0, 1, 5, 2, 0, 0, 0);
            c.due("with the same bits the lesser w", 20, () -> y.plan(2, 0));
            planned(y, 0, 1, 1);
            planned(y, 5, 0, 0);
            LightsMarket z = one(1, 2, 0, 0);
            z.mill(0, 0, 0, 2, 5, 0, 0, 0, 0);
            z.mill(0, 2, 0, 2, 5, 2, 0, 0, 0);
            c.due("QUARTER 0 is ahead of QUARTER 1", 15, () -> z.plan(2, 0));
            planned(z, 0, 0, 1);
            planned(z, 5, 1, 0);
        });
    }

    private static void prices() {
        c.sentence("by how much THE LEAST grows by one LOAD more there", () -> {
            LightsMarket x = new LightsMarket();
            Setup.places(x, 2);
            x.line(0, 1, 1, 2);
            x.sheet(0, 4);
            x.mill(0, 0, 0, 7, 1, 0, 0, 0, 0);
            x.mill(1, 0, 1, 7, 8, 0, 0, 0, 0);
            Setup.loads(x, 0, 1, 3, 3, 3, 3);
            c.due("2 over the LINE, 1 at 8", 10, () -> x.plan(1, 3));
            price(x, 0, 1);
            price(x, 1, 8);
            Setup.offer(x, 1, "price 0;");
            c.due("more costs nothing", 0, () -> x.plan(1, 3));
            price(x, 1, 0);
            price(x, 0, 0);
            LightsMarket y = one(9, 0, 0, 0);
            y.mill(0, 0, 0, 7, 1, 0, 0, 0, 0);
            y.mill(0, 0, 0, 7, 5, 0, 0, 0, 0);
            c.due("LOAD 9", 17, () -> y.plan(1, 3));
            price(y, 0, 5);
        });
        c.sentence("(load of VALUES is one more, too)", () -> {
            LightsMarket x = one(2, 0, 0, 0);
            x.mill(0, 0, 0, 7, 1, 0, 0, 0, 0);
            Setup.offer(x, 0, "price load * 10;");
            c.due("2 at 20", 40, () -> x.plan(1, 1));
            price(x, 0, 50);
            Setup.offer(x, 0, "price 30 - load * 10;");
            c.due("2 at 10", 20, () -> x.plan(1, 1));
            price(x, 0, -20);
            Setup.offer(x, 0, "price 7; when load < 3;");
            c.due("2 at 7", 14, () -> x.plan(1, 1));
            price(x, 0, -1);
            c.due("it can't be met: 9999", 2 * 9999, () -> x.pays(0, 0));
        });
        c.sentence("the same ON, w as it is", () -> {
            LightsMarket x = one(3, 0, 0, 0);
            x.mill(0, 0, 0, 3, 1, 0, 0, 0, 0);
            x.mill(0, 0, 0, 7, 2, 0, 0, 0, 0);
            c.due("the first alone is ON", 3, () -> x.plan(1, 3));
            price(x, 0, -1);
            LightsMarket y = one(3, 0, 0, 0);
            y.mill(0, 2, 0, 7, 1, 15, 7, 0, 0);
            y.mill(0, 3, 0, 2, 50, 0, 0, 0, 0);
            Setup.comes(y, 0, 1, 2, 2, 2, 2);
            c.due("w 3", 3, () -> y.plan(1, 0));
            price(y, 0, 50);
        });
        c.sentence("NONE: it can't be met.", () -> {
            LightsMarket x = new LightsMarket();
            Setup.places(x, 2);
            x.line(0, 1, 1, 2);
            x.sheet(0, 4);
            x.mill(0, 0, 0, 7, 1, 0, 0, 0, 0);
            Setup.loads(x, 0, 1, 2, 1, 2, 0);
            c.due("the LINE is full", 5, () -> x.plan(4, 1));
            price(x, 0, 1, 1, 1, -1);
            price(x, 1, -1, 1, -1, -1);
        });
    }

    private static void pay() {
        c.sentence("its units times PRICES where it is (all PRICES there must be told, else it counts as 9999),"
                + " over the QUARTERS", () -> {
            LightsMarket x = new LightsMarket();
            Setup.places(x, 2);
            x.line(0, 1, 1, 2);
            x.sheet(0, 4);
            x.mill(0, 0, 0, 7, 1, 0, 0, 0, 0);
            x.mill(1, 0, 0, 2, 8, 0, 0, 0, 0);
            Setup.loads(x, 0, 1, 3, 4, 0, 0);
            c.due("2 and 1, then 2 and 2", 10 + 18, () -> x.plan(2, 3));
            price(x, 0, 1, 1);
            price(x, 1, 8, -1);
            pays(x, 0, 2 + 2, 4, 0);
            pays(x, 1, 8 + 2 * 9999, 24, 0);
            LightsMarket y = one(2, 1, 0, 0);
            y.mill(0, 0, 0, 2, 1, 0, 0, 0, 0);
            c.due("all it can, then less", 3, () -> y.plan(2, 1));
            price(y, 0, -1, 1);
            pays(y, 0, 2 * 9999 + 1, 3, 0);
        });
    }

    private static void wholes() {
        c.sentence("is above its PAY, times so many parts of 100 (WHOLES), cut down; 0 if it isn't", () -> {
            int[] parts = {0, 1, 14, 15, 28, 29, 50, 99, 100};
            int[] want = {0, 0, 0, 1, 1, 2, 3, 6, 7};
            for (int i = 0; i < parts.length; i++) {
                LightsMarket x = one(1, 0, 0, 0);
                x.mill(0, 0, 0, 7, 3, 0, 0, 7, 0);
                x.rules(false, 0, parts[i]);
                x.plan(1, 0);
                pays(x, 0, 3, 10, want[i]);
            }
            LightsMarket y = one(2, 0, 0, 0);
            y.mill(0, 0, 0, 2, 3, 0, 0, 7, 0);
            y.plan(1, 0);
            pays(y, 0, 2 * 9999, 13, 0);
            y.plan(1, 1);
            pays(y, 0, 2 * 9999, 6, 0);
            LightsMarket z = one(2, 0, 0, 0);
            z.mill(0, 0, 0, 7, 3, 0, 0, 0, 0);
            z.plan(1, 1);
            pays(z, 0, 6, 6, 0);
        });
        c.sentence("(what was ASKED of its units, its starts, its waiting)", () -> {
            LightsMarket x = one(2, 0, 1, 0);
            x.mill(0, 1, 0, 7, 3, 1, 0, 40, 5);
            Setup.offer(x, 0, "price unit;");
            c.due("3 and 1, two starts, two QUARTERS of waiting", 4 + 80 + 10, () -> x.plan(4, 0));
            pays(x, 0, 2 * 3 + 2, 94, 86);
            LightsMarket y = one(7, 0, 0, 0);
            y.mill(0, 0, 0, 7, 3, 0, 0, 40, 0);
            y.plan(1, 0);
            pays(y, 0, 7 * 9999, 7 * 3 + 40, 0);
        });
    }

    private static void linesEarn() {
        c.sentence("LINES EARN: LOADS times PRICES less all PAY.", () -> {
            LightsMarket x = new LightsMarket();
            Setup.places(x, 2);
            x.line(0, 1, 1, 2);
            x.sheet(0, 4);
            x.mill(0, 0, 0, 7, 1, 0, 0, 0, 0);
            x.mill(1, 0, 0, 7, 8, 0, 0, 0, 0);
            Setup.loads(x, 0, 1, 3, 0, 0, 0);
            x.plan(1, 3);
            c.due("3 at 8 less 2 at 1 and 1 at 8", 14, () -> x.pays(-1, 0));
            x.plan(1, 3);
            c.due("found once more", 14, () -> x.pays(-1, 0));
            LightsMarket y = one(2, 0, 0, 0);
            y.mill(0, 0, 0, 2, 1, 0, 0, 0, 0);
            y.plan(1, 1);
            c.due("9999 if none on both sides", 0, () -> y.pays(-1, 0));
        });
    }

    private static void asItWas() {
        c.sentence("All that is told of THE BEST (WHOLES, BILLS too) is as it was when that was found", () -> {
            LightsMarket x = one(2, 3, 0, 0);
            x.mill(0, 0, 0, 7, 5, 0, 0, 9, 0);
            x.mill(0, 3, 0, 1, 1, 0, 0, 0, 0);
            x.plan(2, 0);
            for (int time = 0; time < 2; time++) {
                planned(x, 0, 1, 1);
                planned(x, 1, 10, 15);
                planned(x, 4, 2, 3);
                planned(x, 5, 0, 0);
                price(x, 0, 5, 5);
                pays(x, 0, 25, 34, 9);
                c.due("LINES", 0, () -> x.pays(-1, 0));
                c.due("BILL", 25, () -> x.bill(0, 0));
                c.due("QUARTERS", 2, () -> x.count(6));
                Setup.loads(x, 0, 0, 9, 9, 9, 9);
                Setup.comes(x, 0, 1, 1, 1, 1, 1);
                Setup.offer(x, 0, "price 100;");
                x.rules(true, 5, 10);
                x.place();
                x.mill(0, 0, 0, 7, 0, 0, 0, 0, 0);
                x.least(0, 15, 0);
                x.game(1);
                x.plan(4, 0);
            }
        });
    }

    private static void laterOnes() {
        c.sentence("what came later has NONE as its PRICE there, 0 as all else", () -> {
            LightsMarket x = one(2, 2, 0, 0);
            x.mill(0, 0, 0, 2, 5, 0, 0, 0, 0);
            x.plan(2, 1);
            x.place();
            x.line(0, 1, 1, 9);
            x.mill(1, 0, 0, 7, 1, 0, 0, 9, 0);
            x.meter(1, 0, 9);
            price(x, 1);
            planned(x, 5, 0, 0);
            pays(x, 1, 0, 0, 0);
            c.due("its BILL, with a METER", 0, () -> x.bill(1, 0));
            c.due("what was there", 4 * 9999, () -> x.bill(0, 0));
        });
    }

    private static void plan() {
        c.sentence("it is kept as it is. NONE (what was kept stays): there is none.", () -> {
            LightsMarket x = one(2, 9, 0, 0);
            x.mill(0, 0, 0, 7, 5, 0, 0, 0, 0);
            c.due("none of two", -1, () -> x.plan(2, 1));
            c.due("none is kept", 0, () -> x.count(6));
            c.due("one of one", 10, () -> x.plan(1, 1));
            c.due("none of two", -1, () -> x.plan(2, 1));
            c.due("the first is kept", 1, () -> x.count(6));
            planned(x, 1, 10);
            price(x, 0, 5);
            pays(x, 0, 10, 10, 0);
            c.due("an empty land has one", 0, () -> new LightsMarket().plan(4, 15));
        });
        c.sentence("IllegalArgumentException: n is not 1 to 4.", () -> {
            LightsMarket x = one(2, 2, 2, 2);
            x.mill(0, 0, 0, 7, 5, 0, 0, 0, 0);
            x.plan(3, 1);
            for (int bad : new int[] {0, -1, 5, LOWEST, HIGHEST}) {
                c.refused("n " + bad, () -> x.plan(bad, 1));
            }
            c.due("what was kept stays", 3, () -> x.count(6));
        });
    }

    private static void planned() {
        c.sentence("0 the ON ones as bits (SLOW and READY ones)", () -> {
            LightsMarket x = one(7, 7, 7, 7);
            x.mill(0, 3, 0, 1, 1, 0, 0, 0, 0);
            x.mill(0, 0, 0, 3, 1, 0, 0, 0, 0);
            x.mill(0, 2, 0, 1, 1, 15, 0, 0, 0);
            x.mill(0, 1, 0, 3, 1, 0, 0, 0, 0);
            Setup.comes(x, 0, 0, 1, 1, 1, 1);
            c.due("plan", 7, () -> x.plan(1, 0));
            planned(x, 0, 10);
        });
        c.sentence("1 THE LEAST, 4 and a MILL: its units; NONE: no such QUARTER in it", () -> {
            LightsMarket x = one(2, 3, 4, 5);
            x.mill(0, 0, 0, 7, 5, 0, 0, 100, 0);
            planned(x, 0);
            planned(x, 1);
            planned(x, 4);
            x.plan(2, 0);
            planned(x, 1, 10, 15);
            planned(x, 4, 2, 3);
            planned(x, 0, 1, 1);
        });
        c.sentence("NoSuchElementException: also another what.", () -> {
            LightsMarket x = one(2, 3, 4, 5);
            x.mill(0, 0, 0, 7, 5, 0, 0, 0, 0);
            x.plan(1, 1);
            for (int bad : new int[] {-1, 2, 3, 5, 8, LOWEST, HIGHEST}) {
                c.missing("what " + bad, () -> x.planned(0, bad));
                c.missing("what " + bad + " in a QUARTER that isn't in it", () -> x.planned(3, bad));
            }
        });
    }

    private static void price() {
        c.sentence("NONE: it can't be met, or there is no such QUARTER in it.", () -> {
            LightsMarket x = one(2, 2, 3, 2);
            x.mill(0, 0, 0, 3, 5, 0, 0, 0, 0);
            price(x, 0);
            x.plan(3, 1);
            price(x, 0, 5, 5, -1);
            x.plan(1, 1);
            price(x, 0, 5);
        });
    }

    private static void pays() {
        c.sentence("mill NONE: 0 what LINES EARN; 0 if none is kept", () -> {
            LightsMarket x = one(2, 2, 3, 2);
            x.mill(0, 0, 0, 3, 5, 0, 0, 0, 0);
            c.due("LINES", 0, () -> x.pays(-1, 0));
            pays(x, 0, 0, 0, 0);
            x.least(0, 1, 0);
            pays(x, 0, 0, 0, 0);
            x.plan(1, 1);
            pays(x, 0, 10, 10, 0);
        });
        c.sentence("Of a MILL by THE BEST that is kept: 0 PAY, 1 its COIN, 2 WHOLE", () -> {
            LightsMarket x = one(2, 2, 3, 2);
            x.mill(0, 0, 0, 3, 5, 0, 0, 60, 0);
            x.plan(1, 0);
            pays(x, 0, 10, 70, 60);
            for (int bad : new int[] {-1, 3, LOWEST, HIGHEST}) {
                c.missing("what " + bad, () -> x.pays(0, bad));
            }
            for (int bad : new int[] {-1, 1, 2, 3, LOWEST, HIGHEST}) {
                c.missing("what " + bad + " of LINES", () -> x.pays(-1, bad));
            }
        });
    }
}
