/** Promises 21 to 23: THE GAME, what HOUSES hide and gain, who is ALONE. */
public final class GameTest {
    private static final Check c = new Check("GameTest");

    public static void main(String[] args) {
        arguments();
        emptyLand();
        nothingToHide();
        oneHides();
        asItIsThen();
        hidesTwo();
        bothMills();
        notBelowLeast();
        windHides();
        noPrice();
        ruin();
        offWaterAndOn();
        likeGains();
        goesRoundToTheFirst();
        goesRoundToALaterOne();
        allHideTwo();
        restsInFour();
        latest();
        alone();
        aloneWithWater();
        aloneLand();
        c.end();
    }

    private static LightsMarket one(int load) {
        LightsMarket x = new LightsMarket();
        x.place();
        x.sheet(0, 4);
        Setup.loads(x, 0, 0, load, load + 1, load, load);
        return x;
    }

    private static void house(LightsMarket x, int house, int hidden, int gain, int open) {
        c.due("hidden by " + house, hidden, () -> x.hides(house, 0));
        c.due("gain of " + house, gain, () -> x.hides(house, 1));
        c.due("gain of " + house + ", nothing hidden", open, () -> x.hides(house, 2));
    }

    private static void arguments() {
        LightsMarket x = new LightsMarket();
        c.missing("game in quarter 4", () -> x.game(4));
        c.missing("game in quarter -1", () -> x.game(-1));
        c.missing("no game yet", () -> x.hides(0, 0));
        x.game(0);
        c.missing("house 3", () -> x.hides(3, 0));
        c.missing("house -1", () -> x.hides(-1, 0));
        c.missing("what 3", () -> x.hides(0, 3));
        c.missing("what -1", () -> x.hides(0, -1));
        c.missing("alone house 3", () -> x.alone(3, 0) ? 1 : 0);
        c.missing("alone house -1", () -> x.alone(-1, 0) ? 1 : 0);
        c.missing("alone quarter 4", () -> x.alone(0, 4) ? 1 : 0);
        c.missing("alone quarter -1", () -> x.alone(0, -1) ? 1 : 0);
    }

    private static void emptyLand() {
        LightsMarket x = new LightsMarket();
        c.due("a game of none", 1, () -> x.game(3));
        for (int h = 0; h < 3; h++) {
            house(x, h, 0, 0, 0);
        }
    }

    private static void nothingToHide() {
        LightsMarket x = one(4);
        x.mill(0, 0, 0, 4, 10, 0, 0, 0, 0);
        x.mill(0, 0, 1, 4, 50, 0, 0, 0, 0);
        c.due("hiding less than all is worse", 1, () -> x.game(0));
        house(x, 0, 0, 160, 160);
        house(x, 1, 0, 0, 0);
        house(x, 2, 0, 0, 0);
    }

    private static void oneHides() {
        LightsMarket x = one(3);
        x.mill(0, 0, 0, 4, 10, 0, 0, 0, 0);
        x.mill(0, 1, 2, 4, 50, 0, 3, 9999, 999);
        c.due("one unit hidden makes the price", 2, () -> x.game(0));
        house(x, 0, 1, 120, 0);
        house(x, 1, 0, 0, 0);
        house(x, 2, 0, 0, 0);
        c.due("one more load", 1, () -> x.game(1));
        house(x, 0, 0, 160, 160);
    }

    /** What was known behind a game stays, whatever comes then. */
    private static void asItIsThen() {
        LightsMarket x = one(3);
        x.mill(0, 0, 0, 4, 10, 0, 0, 0, 0);
        x.mill(0, 1, 2, 4, 50, 0, 3, 9999, 999);
        x.game(0);
        Setup.loads(x, 0, 0, 1, 1, 1, 1);
        Setup.offer(x, 0, "price 40;");
        x.alone(0, 0);
        x.plan(1, 3);
        x.least(0, 3, 0);
        house(x, 0, 1, 120, 0);
        house(x, 2, 0, 0, 0);
    }

    private static void hidesTwo() {
        LightsMarket x = one(4);
        x.mill(0, 0, 0, 6, 10, 0, 0, 0, 0);
        x.mill(0, 0, 1, 7, 50, 0, 0, 0, 0);
        c.due("two units", 2, () -> x.game(0));
        house(x, 0, 2, 160, 0);
        house(x, 1, 0, 0, 0);
        LightsMarket y = one(4);
        y.mill(0, 0, 1, 7, 10, 0, 0, 0, 0);
        y.mill(0, 0, 0, 7, 50, 0, 0, 0, 0);
        c.due("three would be needed", 1, () -> y.game(0));
        house(y, 1, 0, 0, 0);
    }

    /** A HOUSE hides as many of each of its MILLS. */
    private static void bothMills() {
        LightsMarket x = one(6);
        x.mill(0, 0, 2, 4, 10, 0, 0, 0, 0);
        x.mill(0, 0, 2, 4, 20, 0, 0, 0, 0);
        x.mill(0, 0, 1, 4, 90, 0, 0, 0, 0);
        c.due("one of each", 2, () -> x.game(0));
        house(x, 2, 1, 3 * 80 + 3 * 70, 4 * 10);
        house(x, 1, 0, 0, 0);
    }

    private static void notBelowLeast() {
        LightsMarket x = one(4);
        x.mill(0, 0, 0, 6, 10, 5, 0, 0, 0);
        x.mill(0, 0, 1, 7, 50, 0, 0, 0, 0);
        Setup.loads(x, 0, 0, 5, 5, 5, 5);
        c.due("one hidden, two are no more", 2, () -> x.game(0));
        house(x, 0, 1, 200, 0);
        LightsMarket y = one(1);
        y.mill(0, 0, 0, 1, 10, 0, 0, 0, 0);
        y.mill(0, 0, 1, 7, 50, 0, 0, 0, 0);
        c.due("not below 0", 1, () -> y.game(0));
        house(y, 0, 0, 40, 40);
    }

    private static void windHides() {
        LightsMarket x = one(3);
        x.mill(0, 3, 0, 5, 0, 0, 0, 0, 0);
        x.mill(0, 0, 1, 7, 50, 0, 0, 0, 0);
        Setup.comes(x, 0, 0, 4, 4, 3, 3);
        c.due("its most is 5, 4 come: two hidden", 2, () -> x.game(0));
        house(x, 0, 2, 150, 0);
        c.due("3 come", 1, () -> x.game(3));
        house(x, 0, 0, 150, 150);
    }

    private static void noPrice() {
        LightsMarket x = one(3);
        x.mill(0, 0, 0, 5, 10, 0, 0, 0, 0);
        c.due("9999 if there is none", 2, () -> x.game(0));
        house(x, 0, 2, 3 * 9989, 0);
        LightsMarket y = one(3);
        y.mill(0, 0, 0, 3, 10, 0, 0, 0, 0);
        c.due("nor any price at once", 1, () -> y.game(0));
        house(y, 0, 0, 3 * 9989, 3 * 9989);
        Setup.offer(y, 0, "price 500;");
        y.game(0);
        house(y, 0, 0, 3 * 9989, 3 * 9989);
        LightsMarket z = one(2);
        z.mill(0, 0, 0, 7, 10, 0, 0, 0, 0);
        Setup.offer(z, 0, "price 500;");
        z.game(0);
        house(z, 0, 0, 2 * 490, 2 * 490);
    }

    private static void ruin() {
        LightsMarket x = one(8);
        x.mill(0, 0, 0, 4, 10, 0, 0, 0, 0);
        x.mill(0, 0, 1, 3, 10, 0, 0, 0, 0);
        c.due("there is none at all", 1, () -> x.game(0));
        for (int h = 0; h < 3; h++) {
            house(x, h, 0, -1000000, -1000000);
        }
        LightsMarket y = one(7);
        y.mill(0, 0, 0, 4, 999, 0, 0, 0, 0);
        y.mill(0, 0, 1, 3, 999, 0, 0, 0, 0);
        Setup.offer(y, 0, "price 0;");
        c.due("hiding would be ruin", 1, () -> y.game(0));
        house(y, 0, 0, 4 * 9000, 4 * 9000);
        house(y, 1, 0, 3 * 9000, 3 * 9000);
        // 7 of 3 at least: none can be till one hides nothing more
        LightsMarket z = new LightsMarket();
        z.place();
        c.due("one place, no mills", 1, () -> z.game(0));
        z.place();
        c.due("two places that aren't joined", 1, () -> z.game(0));
        house(z, 1, 0, -1000000, -1000000);
    }

    /** SLOW and READY ones are ON, WATER gives nothing. */
    private static void offWaterAndOn() {
        LightsMarket x = one(3);
        x.mill(0, 2, 0, 7, 0, 15, 7, 0, 0);
        x.mill(0, 1, 1, 7, 20, 0, 3, 0, 0);
        x.mill(0, 0, 2, 7, 60, 0, 3, 0, 0);
        x.plan(1, 0);
        c.due("water is 0", 1, () -> x.game(0));
        house(x, 0, 0, 0, 0);
        house(x, 1, 0, 0, 0);
        LightsMarket y = one(3);
        y.mill(0, 1, 1, 7, 20, 4, 3, 0, 0);
        c.due("a least that is too much, being on", 1, () -> y.game(0));
        house(y, 1, 0, -1000000, -1000000);
    }

    private static void likeGains() {
        LightsMarket x = one(2);
        x.mill(0, 0, 0, 7, 10, 0, 0, 0, 0);
        x.mill(0, 0, 1, 7, 10, 0, 0, 0, 0);
        x.mill(0, 0, 2, 7, 10, 0, 0, 0, 0);
        c.due("nothing gains", 1, () -> x.game(0));
        for (int h = 0; h < 3; h++) {
            house(x, h, 0, 0, 0);
        }
        LightsMarket y = one(2);
        y.mill(0, 0, 0, 3, 10, 0, 0, 0, 0);
        y.mill(0, 0, 1, 7, 60, 0, 0, 0, 0);
        c.due("one gains as much as none with two", 2, () -> y.game(0));
        house(y, 0, 1, 100, 0);
    }

    private static void goesRoundToTheFirst() {
        LightsMarket x = Setup.goesRoundToTheFirst();
        c.due("as at first behind two rounds", -3, () -> x.game(0));
        house(x, 0, 0, 0, 0);
        house(x, 1, 0, 0, 0);
        house(x, 2, 0, 60, 60);
    }

    private static void goesRoundToALaterOne() {
        LightsMarket x = Setup.goesRoundToALaterOne();
        c.due("as behind an earlier round", -4, () -> x.game(0));
        c.due("hidden by 0", 0, () -> x.hides(0, 0));
        c.due("hidden by 1", 2, () -> x.hides(1, 0));
        c.due("hidden by 2", 2, () -> x.hides(2, 0));
        c.due("gain of 1", 50, () -> x.hides(1, 1));
        c.due("gain of 2", 49970, () -> x.hides(2, 1));
    }

    private static void allHideTwo() {
        LightsMarket x = new LightsMarket();
        Setup.places(x, 3);
        x.line(0, 1, 1, 4);
        x.line(1, 2, 2, 1);
        x.sheet(0, 4);
        x.mill(0, 3, 2, 5, 35, 0, 0, 0, 0);
        x.mill(1, 0, 2, 7, 0, 0, 0, 0, 0);
        x.mill(1, 0, 0, 7, 5, 0, 0, 0, 0);
        x.mill(2, 0, 1, 3, 20, 0, 0, 0, 0);
        Setup.comes(x, 0, 0, 6, 6, 6, 6);
        Setup.loads(x, 0, 0, 5, 5, 5, 5);
        Setup.loads(x, 0, 1, 7, 7, 7, 7);
        Setup.loads(x, 0, 2, 2, 2, 2, 2);
        c.due("all hide two", 2, () -> x.game(0));
        c.due("hidden by 0", 2, () -> x.hides(0, 0));
        c.due("hidden by 1", 2, () -> x.hides(1, 0));
        c.due("hidden by 2", 2, () -> x.hides(2, 0));
        c.due("gain of 0", 49970, () -> x.hides(0, 1));
        c.due("gain of 1", 9979, () -> x.hides(1, 1));
        c.due("gain of 2", 79887, () -> x.hides(2, 1));
    }

    private static void restsInFour() {
        LightsMarket x = new LightsMarket();
        Setup.places(x, 3);
        x.line(0, 1, 1, 6);
        x.line(1, 2, 2, 5);
        x.line(0, 2, 3, 5);
        x.sheet(0, 4);
        x.mill(1, 0, 0, 7, 30, 5, 0, 0, 0);
        x.mill(0, 0, 2, 3, 15, 0, 0, 0, 0);
        x.mill(1, 3, 0, 6, 35, 0, 0, 0, 0);
        x.mill(2, 0, 1, 6, 25, 4, 0, 0, 0);
        Setup.comes(x, 0, 2, 2, 2, 2, 2);
        Setup.loads(x, 0, 0, 6, 6, 6, 6);
        Setup.loads(x, 0, 1, 1, 1, 1, 1);
        Setup.loads(x, 0, 2, 3, 3, 3, 3);
        c.due("four rounds", 4, () -> x.game(0));
        c.due("hidden by 0", 2, () -> x.hides(0, 0));
        c.due("hidden by 1", 2, () -> x.hides(1, 0));
        c.due("hidden by 2", 2, () -> x.hides(2, 0));
        c.due("gain of 0", 25, () -> x.hides(0, 1));
        c.due("gain of 1", 40, () -> x.hides(1, 1));
        c.due("gain of 2", 20, () -> x.hides(2, 1));
    }

    private static void latest() {
        LightsMarket x = one(3);
        x.mill(0, 0, 0, 4, 10, 0, 0, 0, 0);
        x.mill(0, 1, 2, 4, 50, 0, 3, 9999, 999);
        c.due("a game", 2, () -> x.game(0));
        house(x, 0, 1, 120, 0);
        c.due("another one", 1, () -> x.game(1));
        house(x, 0, 0, 160, 160);
        c.missing("no such quarter", () -> x.game(4));
        house(x, 0, 0, 160, 160);
        c.due("a third one, nothing being hidden again", 2, () -> x.game(2));
        house(x, 0, 1, 120, 0);
        c.due("and the first again", 2, () -> x.game(0));
        house(x, 0, 1, 120, 0);
    }

    private static void alone() {
        LightsMarket x = one(4);
        x.mill(0, 0, 0, 4, 10, 0, 3, 0, 0);
        x.mill(0, 3, 1, 5, 10, 0, 0, 0, 0);
        x.mill(0, 1, 1, 1, 10, 0, 3, 0, 0);
        Setup.comes(x, 0, 1, 3, 3, 2, 4);
        c.no("3 and 1 are enough without 0", () -> x.alone(0, 0));
        c.no("4 is enough without 1", () -> x.alone(1, 0));
        c.no("nothing is missed of 2", () -> x.alone(2, 0));
        c.yes("one load more, without 0", () -> x.alone(0, 1));
        c.yes("one load more, without 1", () -> x.alone(1, 1));
        c.no("one load more, without 2", () -> x.alone(2, 1));
        c.yes("less wind, without 0", () -> x.alone(0, 2));
        c.no("less wind, without 1", () -> x.alone(1, 2));
        LightsMarket y = one(2);
        y.mill(0, 0, 0, 7, 10, 3, 0, 0, 0);
        y.mill(0, 0, 1, 2, 10, 0, 0, 0, 0);
        c.due("its least is in the way of all", -1, () -> y.least(0, 3, 0));
        c.no("but not without it", () -> y.alone(0, 0));
        c.yes("there is none anyway", () -> y.alone(2, 0));
    }

    private static void aloneWithWater() {
        LightsMarket x = one(4);
        x.mill(0, 2, 0, 4, 10, 0, 0, 0, 0);
        x.mill(0, 0, 1, 3, 10, 0, 0, 0, 0);
        c.no("w as needed, the lake isn't asked", () -> x.alone(1, 0));
        c.yes("water makes nothing either", () -> x.alone(0, 0));
        c.yes("w no more than its most", () -> x.alone(1, 1));
        LightsMarket y = one(2);
        y.mill(0, 2, 0, 4, 10, 0, 0, 0, 0);
        y.mill(0, 0, 1, 2, 10, 0, 0, 0, 0);
        Setup.offer(y, 0, "price 1; when 0;");
        c.no("w 0 is one of any", () -> y.alone(0, 0));
        c.yes("water isn't offered", () -> y.alone(1, 0));
        LightsMarket z = one(3);
        z.mill(0, 3, 1, 4, 10, 0, 0, 0, 0);
        z.mill(0, 3, 2, 4, 10, 0, 0, 0, 0);
        Setup.comes(z, 0, 0, 3, 3, 3, 3);
        Setup.comes(z, 0, 1, 2, 2, 2, 2);
        c.yes("wind makes nothing either", () -> z.alone(1, 0));
        c.no("the other wind", () -> z.alone(2, 0));
    }

    private static void aloneLand() {
        LightsMarket x = new LightsMarket();
        c.no("an empty land", () -> x.alone(0, 0));
        x.place();
        x.place();
        c.yes("two places that aren't joined", () -> x.alone(0, 0));
        x.line(0, 1, 1, 1);
        c.no("joined", () -> x.alone(0, 0));
        x.sheet(0, 4);
        Setup.loads(x, 0, 0, 2, 1, 0, 0);
        x.mill(1, 0, 0, 7, 1, 0, 0, 0, 0);
        c.yes("the line is too full", () -> x.alone(1, 0));
        c.no("the line is full", () -> x.alone(1, 1));
    }
}
