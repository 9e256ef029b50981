/** A test of its own for each sentence on THE GAME and on who is ALONE that names an edge (promises 21 to 23). */
public final class GameSentencesTest {
    private static final Check c = new Check("GameSentencesTest");
    private static final int LOWEST = Integer.MIN_VALUE;
    private static final int HIGHEST = Integer.MAX_VALUE;
    private static final int RUIN = -1000000;

    public static void main(String[] args) {
        whoIsOn();
        hidden();
        windHides();
        gains();
        noLeast();
        inTurn();
        rests();
        goesRound();
        kept();
        hides();
        alone();
        aloneArguments();
        c.end();
    }

    private static LightsMarket one(int load) {
        LightsMarket x = new LightsMarket();
        x.place();
        x.sheet(0, 4);
        Setup.loads(x, 0, 0, load, load, load, load);
        return x;
    }

    private static void house(LightsMarket x, int house, int hidden, int gain, int open) {
        c.due("HIDDEN by " + house, hidden, () -> x.hides(house, 0));
        c.due("GAIN of " + house, gain, () -> x.hides(house, 1));
        c.due("GAIN of " + house + ", nothing hidden", open, () -> x.hides(house, 2));
    }

    private static void whoIsOn() {
        c.sentence("all SLOW and READY ones ON, WATER 0", () -> {
            LightsMarket x = one(3);
            x.mill(0, 2, 0, 7, 0, 15, 7, 0, 0);
            x.mill(0, 1, 1, 2, 20, 0, 3, 9999, 999);
            x.mill(0, 0, 2, 7, 60, 0, 3, 9999, 0);
            c.due("2 of the READY one, 1 of the SLOW one", 1, () -> x.game(0));
            house(x, 0, 0, 0, 0);
            house(x, 1, 0, 80, 80);
            house(x, 2, 0, 0, 0);
            LightsMarket y = one(3);
            y.mill(0, 0, 0, 7, 20, 4, 0, 0, 0);
            c.due("a least that is too much", 1, () -> y.game(0));
            house(y, 0, 0, RUIN, RUIN);
        });
    }

    private static void hidden() {
        c.sentence("each HOUSE HIDES 0, 1 or 2 units of each of its MILLS", () -> {
            for (int spare = 1; spare <= 3; spare++) {
                LightsMarket x = one(4);
                x.mill(0, 0, 0, 4 + spare, 10, 0, 0, 0, 0);
                x.mill(0, 0, 1, 7, 50, 0, 0, 0, 0);
                int want = spare < 3 ? spare : 0;
                c.due("spare " + spare, want > 0 ? 2 : 1, () -> x.game(0));
                house(x, 0, want, want > 0 ? 160 : 0, 0);
            }
            LightsMarket y = one(6);
            y.mill(0, 0, 2, 4, 10, 0, 0, 0, 0);
            y.mill(0, 1, 2, 4, 20, 0, 0, 0, 0);
            y.mill(0, 0, 1, 4, 90, 0, 0, 0, 0);
            c.due("one of each", 2, () -> y.game(0));
            house(y, 2, 1, 3 * 80 + 3 * 70, 4 * 10);
        });
        c.sentence("its most is so much less (not below least", () -> {
            LightsMarket x = one(6);
            x.mill(0, 0, 0, 2, 10, 2, 0, 0, 0);
            x.mill(0, 0, 0, 6, 10, 0, 0, 0, 0);
            x.mill(0, 0, 1, 7, 50, 0, 0, 0, 0);
            c.due("2 and 4 when two are HIDDEN", 2, () -> x.game(0));
            house(x, 0, 2, 6 * 40, 0);
        });
        c.sentence("nor 0", () -> {
            LightsMarket x = one(4);
            x.mill(0, 0, 0, 1, 10, 0, 0, 0, 0);
            x.mill(0, 0, 0, 6, 10, 0, 0, 0, 0);
            x.mill(0, 0, 1, 7, 50, 0, 0, 0, 0);
            c.due("0 and 4 when two are HIDDEN", 2, () -> x.game(0));
            house(x, 0, 2, 4 * 40, 0);
            LightsMarket y = one(4);
            y.mill(0, 3, 0, 1, 10, 0, 0, 0, 0);
            y.mill(0, 0, 0, 6, 10, 0, 0, 0, 0);
            y.mill(0, 0, 1, 7, 50, 0, 0, 0, 0);
            Setup.comes(y, 0, 0, 7, 7, 7, 7);
            c.due("of WIND as well", 2, () -> y.game(0));
            house(y, 0, 2, 4 * 40, 0);
        });
    }

    private static void windHides() {
        c.sentence("of WIND no more than what COMES, as ever", () -> {
            LightsMarket x = one(3);
            x.mill(0, 3, 0, 5, 0, 0, 0, 0, 0);
            x.mill(0, 0, 1, 7, 50, 0, 0, 0, 0);
            Setup.comes(x, 0, 0, 4, 3, 7, 2);
            c.due("4 come of 5: two are HIDDEN to make 3", 2, () -> x.game(0));
            house(x, 0, 2, 150, 0);
            c.due("3 come", 1, () -> x.game(1));
            house(x, 0, 0, 150, 150);
            c.due("7 come of 5: as with 5", 2, () -> x.game(2));
            house(x, 0, 2, 150, 0);
            c.due("2 come", 1, () -> x.game(3));
            house(x, 0, 0, 100, 100);
        });
    }

    private static void gains() {
        c.sentence("units of its MILLS times (PRICE there, 9999 if none, less TRUE)", () -> {
            LightsMarket x = one(2);
            x.mill(0, 0, 0, 7, 10, 0, 0, 0, 0);
            Setup.offer(x, 0, "price 500;");
            c.due("TRUE, not what is ASKED", 1, () -> x.game(0));
            house(x, 0, 0, 2 * 490, 2 * 490);
            LightsMarket y = one(3);
            y.mill(0, 0, 0, 3, 10, 0, 0, 0, 0);
            c.due("no PRICE", 1, () -> y.game(0));
            house(y, 0, 0, 3 * 9989, 3 * 9989);
            LightsMarket z = one(1);
            z.mill(0, 0, 0, 7, 999, 0, 0, 0, 0);
            Setup.offer(z, 0, "price 0;");
            c.due("below 0", 1, () -> z.game(0));
            house(z, 0, 0, -999, -999);
            LightsMarket v = one(3);
            v.mill(0, 0, 0, 7, 1, 0, 0, 0, 0);
            Setup.offer(v, 0, "price (load = 3) * 7 + (load = 4) * 5;");
            c.due("a PRICE that is -1", 1, () -> v.game(0));
            house(v, 0, 0, -6, -6);
        });
        c.sentence("(PRICE there", () -> {
            LightsMarket x = new LightsMarket();
            Setup.places(x, 2);
            x.line(0, 1, 1, 2);
            x.sheet(0, 4);
            x.mill(0, 0, 0, 7, 1, 0, 0, 0, 0);
            x.mill(1, 0, 1, 7, 8, 0, 0, 0, 0);
            x.mill(1, 0, 2, 1, 3, 0, 0, 0, 0);
            Setup.loads(x, 0, 1, 4, 4, 4, 4);
            c.due("1 at PLACE 0, 8 at PLACE 1", 1, () -> x.game(0));
            house(x, 0, 0, 0, 0);
            house(x, 1, 0, 0, 0);
            house(x, 2, 0, 5, 5);
        });
    }

    private static void noLeast() {
        c.sentence("if THE LEAST isn't there, all GAINS are -1,000,000", () -> {
            LightsMarket x = one(8);
            x.mill(0, 0, 0, 7, 10, 0, 0, 0, 0);
            c.due("not at all", 1, () -> x.game(0));
            for (int h = 0; h < 3; h++) {
                house(x, h, 0, RUIN, RUIN);
            }
            LightsMarket y = one(7);
            y.mill(0, 0, 0, 7, 999, 0, 0, 0, 0);
            Setup.offer(y, 0, "price 0; when load < 9;");
            c.due("not if any is HIDDEN", 1, () -> y.game(0));
            house(y, 0, 0, 7 * 9000, 7 * 9000);
            LightsMarket z = new LightsMarket();
            Setup.places(z, 2);
            c.due("PLACES that aren't JOINED", 1, () -> z.game(0));
            for (int h = 0; h < 3; h++) {
                house(z, h, 0, RUIN, RUIN);
            }
        });
    }

    private static void inTurn() {
        c.sentence("From nothing hidden on HOUSES 0, 1, 2 in turn take what gains them most as the others are", () -> {
            for (int first = 0; first < 2; first++) {
                int other = 1 + first;
                int early = first;
                LightsMarket x = one(6);
                x.mill(0, 0, early, 4, 10, 0, 0, 0, 0);
                x.mill(0, 0, other, 4, 10, 0, 0, 0, 0);
                x.mill(0, 0, early == 0 ? 2 : 0, 7, 50, 0, 0, 0, 0);
                // the earlier one hides two and makes 2 of 6; the other one need not hide then
                c.due("the earlier one hides", 2, () -> x.game(0));
                house(x, early, 2, 80, 0);
                house(x, other, 0, 160, 0);
            }
        });
        c.sentence("of like ones the least that is HIDDEN", () -> {
            LightsMarket x = one(2);
            for (int h = 0; h < 3; h++) {
                x.mill(0, 0, h, 7, 10, 0, 0, 0, 0);
            }
            c.due("nothing gains", 1, () -> x.game(0));
            for (int h = 0; h < 3; h++) {
                house(x, h, 0, 0, 0);
            }
            LightsMarket y = one(5);
            y.mill(0, 0, 0, 6, 10, 5, 0, 0, 0);
            y.mill(0, 0, 1, 7, 50, 0, 0, 0, 0);
            c.due("one or two leave its least", 2, () -> y.game(0));
            house(y, 0, 1, 200, 0);
            LightsMarket z = one(8);
            c.due("no MILLS at all", 1, () -> z.game(0));
            house(z, 0, 0, RUIN, RUIN);
        });
    }

    private static void rests() {
        c.sentence("how many ROUNDS till it RESTS (the last one counted)", () -> {
            LightsMarket x = one(3);
            x.mill(0, 0, 0, 7, 10, 0, 0, 0, 0);
            c.due("the first ROUND changes nothing", 1, () -> x.game(0));
            LightsMarket y = one(3);
            y.mill(0, 0, 0, 4, 10, 0, 0, 0, 0);
            y.mill(0, 0, 1, 4, 50, 0, 0, 0, 0);
            c.due("the second ROUND changes nothing", 2, () -> y.game(0));
            LightsMarket z = new LightsMarket();
            c.due("an empty land", 1, () -> z.game(3));
            house(z, 0, 0, 0, 0);
        });
    }

    private static void goesRound() {
        c.sentence("it GOES ROUND, if behind a ROUND all is as behind an earlier one, or at first", () -> {
            LightsMarket x = Setup.goesRoundToTheFirst();
            c.due("as at first behind two ROUNDS", -1 - 2, () -> x.game(0));
            c.due("HIDDEN by 0", 0, () -> x.hides(0, 0));
            c.due("HIDDEN by 1", 0, () -> x.hides(1, 0));
            c.due("HIDDEN by 2", 0, () -> x.hides(2, 0));
            LightsMarket y = Setup.goesRoundToALaterOne();
            c.due("as behind an earlier one behind three", -1 - 3, () -> y.game(0));
            c.due("HIDDEN by 0", 0, () -> y.hides(0, 0));
            c.due("HIDDEN by 1", 2, () -> y.hides(1, 0));
            c.due("HIDDEN by 2", 2, () -> y.hides(2, 0));
        });
    }

    private static void kept() {
        c.sentence("what is HIDDEN then is kept", () -> {
            LightsMarket x = one(3);
            x.mill(0, 0, 0, 4, 10, 0, 0, 0, 0);
            x.mill(0, 0, 1, 4, 50, 0, 0, 0, 0);
            x.game(0);
            house(x, 0, 1, 120, 0);
            Setup.loads(x, 0, 0, 9, 9, 9, 9);
            Setup.offer(x, 1, "price 11;");
            x.mill(0, 0, 0, 7, 1, 0, 0, 0, 0);
            x.least(0, 7, 0);
            x.plan(1, 7);
            x.alone(0, 0);
            house(x, 0, 1, 120, 0);
            c.missing("no such QUARTER", () -> x.game(-1));
            house(x, 0, 1, 120, 0);
        });
        c.sentence("behind the latest game()", () -> {
            LightsMarket x = one(3);
            x.mill(0, 0, 0, 4, 10, 0, 0, 0, 0);
            x.mill(0, 0, 1, 4, 50, 0, 0, 0, 0);
            Setup.loads(x, 0, 0, 3, 1, 3, 8);
            x.game(0);
            house(x, 0, 1, 120, 0);
            x.game(1);
            house(x, 0, 0, 0, 0);
            x.game(2);
            house(x, 0, 1, 120, 0);
            x.game(3);
            house(x, 0, 0, 4 * 9989, 4 * 9989);
        });
    }

    private static void hides() {
        c.sentence("no such HOUSE (as everywhere), another what, no game() yet", () -> {
            LightsMarket x = one(3);
            x.mill(0, 0, 0, 4, 10, 0, 0, 0, 0);
            for (int what = 0; what < 3; what++) {
                int w = what;
                c.missing("no game() yet", () -> x.hides(0, w));
            }
            c.missing("a game() of no QUARTER", () -> x.game(4));
            c.missing("no game() yet still", () -> x.hides(0, 0));
            x.game(0);
            c.due("a HOUSE without MILLS", 0, () -> x.hides(2, 1));
            for (int bad : new int[] {-1, 3, LOWEST, HIGHEST}) {
                c.missing("HOUSE " + bad, () -> x.hides(bad, 0));
                c.missing("what " + bad, () -> x.hides(0, bad));
                c.missing("alone of HOUSE " + bad, () -> x.alone(bad, 0) ? 1 : 0);
                c.missing("mill of HOUSE " + bad, () -> x.mill(0, 0, bad, 4, 10, 0, 0, 0, 0));
            }
        });
        c.sentence("0 what it HIDES, 1 its GAIN, 2 its GAIN with nothing hidden at all", () -> {
            LightsMarket x = one(3);
            x.mill(0, 0, 0, 4, 10, 0, 0, 0, 0);
            x.mill(0, 0, 1, 2, 20, 0, 0, 0, 0);
            x.mill(0, 0, 2, 7, 50, 0, 0, 0, 0);
            // 0 hides one: 3 at 20 gain it 30; two: 2 and 1 at 20 gain 20
            c.due("game", 2, () -> x.game(0));
            house(x, 0, 1, 30, 0);
            house(x, 1, 0, 0, 0);
            house(x, 2, 0, 0, 0);
        });
    }

    private static void alone() {
        c.sentence("without whose MILLS (they make nothing, WIND and WATER as well) there is no LEAST", () -> {
            LightsMarket x = one(5);
            x.mill(0, 0, 0, 5, 10, 0, 0, 0, 0);
            c.yes("SLOW", () -> x.alone(0, 0));
            c.no("of others nothing is missed", () -> x.alone(1, 0));
            x.mill(0, 3, 1, 5, 10, 0, 0, 0, 0);
            Setup.comes(x, 0, 1, 5, 4, 0, 7);
            c.no("WIND of 5", () -> x.alone(0, 0));
            c.yes("WIND of 4", () -> x.alone(0, 1));
            LightsMarket y = one(5);
            y.mill(0, 3, 2, 5, 10, 0, 0, 0, 0);
            y.mill(0, 3, 1, 4, 10, 0, 0, 0, 0);
            Setup.comes(y, 0, 0, 5, 5, 5, 5);
            Setup.comes(y, 0, 1, 4, 4, 4, 4);
            c.yes("its WIND makes nothing", () -> y.alone(2, 0));
            c.no("the other one's", () -> y.alone(1, 0));
            LightsMarket z = one(5);
            z.mill(0, 2, 2, 5, 10, 15, 7, 0, 0);
            c.yes("its WATER makes nothing", () -> z.alone(2, 0));
            c.no("the WATER of others", () -> z.alone(0, 0));
            LightsMarket v = one(8);
            v.mill(0, 0, 0, 7, 10, 0, 0, 0, 0);
            c.yes("there is none with them either", () -> v.alone(1, 0));
        });
        c.sentence("all others ON", () -> {
            LightsMarket x = one(2);
            x.mill(0, 0, 0, 7, 10, 0, 0, 0, 0);
            x.mill(0, 1, 1, 7, 10, 3, 3, 0, 0);
            c.yes("the other one's least is too much", () -> x.alone(0, 0));
            c.no("without that one", () -> x.alone(1, 0));
        });
        c.sentence("w any from 0 to its most (the lake isn't asked)", () -> {
            LightsMarket x = one(4);
            x.mill(0, 2, 1, 4, 10, 0, 0, 0, 0);
            c.no("its most, the lake is empty", () -> x.alone(0, 0));
            Setup.loads(x, 0, 0, 5, 0, 2, 4);
            c.yes("above its most", () -> x.alone(0, 0));
            c.no("0", () -> x.alone(0, 1));
            c.no("2", () -> x.alone(0, 2));
            x.mill(0, 0, 2, 7, 10, 4, 0, 0, 0);
            c.no("4 of both", () -> x.alone(0, 0));
            c.yes("more than 2 of the other one", () -> x.alone(0, 2));
        });
    }

    private static void aloneArguments() {
        c.sentence("Whether a HOUSE is ALONE.", () -> {
            LightsMarket x = new LightsMarket();
            c.no("an empty land", () -> x.alone(2, 3));
            x.place();
            x.place();
            c.yes("PLACES that aren't JOINED", () -> x.alone(2, 3));
            for (int bad : new int[] {-1, 3, LOWEST, HIGHEST}) {
                c.missing("HOUSE " + bad, () -> x.alone(bad, 0) ? 1 : 0);
            }
            for (int bad : new int[] {-1, 4, LOWEST, HIGHEST}) {
                c.missing("QUARTER " + bad, () -> x.alone(0, bad) ? 1 : 0);
            }
        });
    }
}
