/** A test of its own for each sentence on A NIGHT and THE WAY that names an edge (promises 24 to 30). */
public final class NightSentencesTest {
    private static final Check c = new Check("NightSentencesTest");
    private static final int LOWEST = Integer.MIN_VALUE;
    private static final int HIGHEST = Integer.MAX_VALUE;

    public static void main(String[] args) {
        begins();
        falling();
        ramps();
        speed();
        cuts();
        dark();
        night();
        falls();
        minutes();
        ofNight();
        acts();
        served();
        needs();
        shortest();
        starts();
        way();
        act();
        c.end();
    }

    /** Each PLACE with a LOAD in QUARTERS 0 and 2, none in 1 and 3, JOINED in a row; SHEET 0 is there. */
    private static LightsMarket land(int... loads) {
        LightsMarket x = new LightsMarket();
        Setup.places(x, loads.length);
        x.sheet(0, 4);
        for (int p = 0; p < loads.length; p++) {
            Setup.loads(x, 0, p, loads[p], 0, loads[p], 0);
        }
        return x;
    }

    /** One PLACE with SLOW MILLS of these mosts. */
    private static LightsMarket one(int load, int... mosts) {
        LightsMarket x = land(load);
        for (int most : mosts) {
            x.mill(0, 0, 0, most, 1, 0, 0, 0, 0);
        }
        return x;
    }

    private static void state(LightsMarket x, int speed, int gone, int cut, int dark, int made) {
        c.due("SPEED", speed, () -> x.ofNight(0));
        c.due("minutes", gone, () -> x.ofNight(1));
        c.due("cut", cut, () -> x.ofNight(2));
        c.due("DARK", dark, () -> x.ofNight(3));
        c.due("made", made, () -> x.ofNight(4));
    }

    private static void begins() {
        c.sentence("SPEED is 50000 at first.", () -> {
            LightsMarket x = one(9, 7);
            x.night(0, 3, 1, 0);
            state(x, 50000, 0, 0, 0, 3);
            x.minutes(1);
            x.night(0, 3, 1, 0);
            state(x, 50000, 0, 0, 0, 3);
        });
        c.sentence("(its LOADS as they are as it begins)", () -> {
            LightsMarket x = one(3, 7);
            x.night(0, 2, 1, 0);
            Setup.loads(x, 0, 0, 9, 9, 9, 9);
            c.due("3 less 2", 49950, () -> x.minutes(1));
            x.place();
            Setup.loads(x, 0, 1, 9, 9, 9, 9);
            c.due("3 less 2", 49900, () -> x.minutes(1));
        });
    }

    private static void falling() {
        c.sentence("a MILL falls that was told to for it (it makes 0 from then on)", () -> {
            LightsMarket x = one(3, 3, 7);
            x.night(0, 3, 3, 0);
            x.falls(0, 1);
            x.minutes(1);
            state(x, 50000, 1, 0, 0, 3);
            x.minutes(1);
            state(x, 49850, 2, 0, 0, 0);
            x.minutes(5);
            state(x, 49850 - 5 * 150 - 0, 7, 0, 0, 0);
            LightsMarket y = one(3, 3);
            y.night(0, 3, 1, 0);
            y.falls(0, 0);
            y.minutes(1);
            state(y, 49850, 1, 0, 0, 0);
            LightsMarket z = one(6, 3, 3);
            z.night(0, 0x33, 1, 0);
            z.falls(0, 2);
            z.falls(1, 2);
            z.minutes(3);
            state(z, 49700, 3, 0, 0, 0);
            LightsMarket v = one(0, 3);
            v.night(0, 3, 1, 0);
            v.falls(0, 999);
            v.minutes(999);
            state(v, 50000, 999, 0, 0, 3);
            v.minutes(1);
            state(v, 50000, 1000, 0, 0, 0);
        });
    }

    private static void ramps() {
        c.sentence("if SPEED is below 49900", () -> {
            LightsMarket x = one(4, 7);
            x.night(0, 2, 1, 0);
            x.minutes(1);
            state(x, 49900, 1, 0, 0, 2);
            x.minutes(1);
            state(x, 49800, 2, 0, 0, 2);
            x.minutes(1);
            state(x, 49750, 3, 0, 0, 3);
            LightsMarket y = one(3, 7);
            y.night(0, 0, 1, 0);
            y.minutes(1);
            state(y, 49850, 1, 0, 0, 0);
        });
        c.sentence("each that hasn't fallen and makes some makes up to RAMP (1 to 3) more, its most at most", () -> {
            int[] made = {4, 6, 7};
            for (int ramp = 1; ramp <= 3; ramp++) {
                LightsMarket x = one(9, 7, 3, 7, 7);
                int told = ramp;
                // 2 of 7, 2 of 3, one makes none, one falls
                x.night(0, 0x1022, told, 0);
                x.falls(3, 1);
                x.minutes(1);
                state(x, 49800, 1, 0, 0, 5);
                x.minutes(1);
                int now = Math.min(7, 2 + ramp) + Math.min(3, 2 + ramp);
                state(x, 49800 - 50 * (9 - now), 2, 0, 0, now);
                LightsMarket y = one(9, 7);
                y.night(0, 3, told, 0);
                y.minutes(2);
                int alone = made[ramp - 1] == 7 ? 6 : 3 + ramp;
                c.due("3 and RAMP", alone, () -> y.ofNight(4));
                y.minutes(20);
                c.due("its most at most", 7, () -> y.ofNight(4));
            }
        });
        c.sentence("a MILL falls that was told to for it (it makes 0 from then on); then, if SPEED is below 49900", () -> {
            LightsMarket x = one(9, 7);
            x.night(0, 6, 3, 0);
            x.falls(0, 1);
            x.minutes(1);
            state(x, 49850, 1, 0, 0, 6);
            x.minutes(1);
            state(x, 49400, 2, 0, 0, 0);
        });
    }

    private static void speed() {
        c.sentence("SPEED goes down by 50 times (LOADS that aren't cut less all that is made; up, if that is below 0),"
                + " but not above 50000", () -> {
            LightsMarket x = one(5, 7);
            x.night(0, 5, 1, 0);
            c.due("as many", 50000, () -> x.minutes(1));
            x.night(0, 7, 1, 0);
            c.due("2 more, at 50000", 50000, () -> x.minutes(1));
            x.night(0, 4, 1, 0);
            c.due("1 less", 49950, () -> x.minutes(1));
            c.due("1 less", 49900, () -> x.minutes(1));
            c.due("1 less", 49850, () -> x.minutes(1));
            c.due("ramped up: as many", 49850, () -> x.minutes(1));
            c.due("1 more", 49900, () -> x.minutes(1));
            c.due("1 more", 49950, () -> x.minutes(1));
            c.due("1 more", 50000, () -> x.minutes(1));
            c.due("1 more, at 50000", 50000, () -> x.minutes(1));
        });
    }

    private static void cuts() {
        c.sentence("if it is below 49000, the next PLACE of THE ORDER (all PLACES in it, each once) is cut", () -> {
            LightsMarket x = one(5);
            x.night(0, 0, 1, 0);
            x.minutes(4);
            state(x, 49000, 4, 0, 0, 0);
            x.minutes(1);
            state(x, 48750, 5, 1, 0, 0);
            x.minutes(100);
            state(x, 48750, 105, 1, 0, 0);
            LightsMarket y = land(3, 4, 5);
            // THE ORDER: 2, 0, 1; 12 LOADS
            y.night(0, 0, 1, 0b010010);
            y.minutes(1);
            state(y, 49400, 1, 0, 0, 0);
            y.minutes(1);
            state(y, 48800, 2, 4, 0, 0);
            y.minutes(1);
            state(y, 48450, 3, 5, 0, 0);
            y.minutes(1);
            state(y, 48250, 4, 7, 0, 0);
            y.minutes(1);
            state(y, 48250, 5, 7, 0, 0);
        });
        c.sentence("then, if it is below 49000", () -> {
            LightsMarket x = land(9, 2);
            x.mill(1, 0, 0, 7, 1, 0, 0, 0, 0);
            x.night(0, 7, 1, 0b0100);
            x.minutes(5);
            state(x, 49000, 5, 0, 0, 7);
            x.minutes(1);
            state(x, 48800, 6, 1, 0, 7);
            x.minutes(1);
            // 5 more are made than the 2 that aren't cut: up, and still below 49000
            state(x, 49050, 7, 1, 0, 7);
            x.minutes(4);
            state(x, 50000, 11, 1, 0, 7);
        });
    }

    private static void dark() {
        c.sentence("if it is below 47500, all is DARK", () -> {
            LightsMarket x = land(8, 9, 8);
            x.night(0, 0, 1, 0b100100);
            x.minutes(2);
            state(x, 47900, 2, 3, 0, 0);
            x.minutes(1);
            state(x, 47500, 3, 7, 0, 0);
            x.minutes(1);
            state(x, 47500, 4, 7, 0, 0);
            LightsMarket y = land(8, 8, 9);
            y.night(0, 0, 1, 0b100100);
            y.minutes(3);
            state(y, 47450, 3, 7, 1, 0);
        });
        c.sentence("and nothing more happens (minutes go by all the same)", () -> {
            LightsMarket x = land(9, 9, 9, 9);
            x.mill(0, 0, 0, 7, 1, 0, 0, 0, 0);
            x.night(0, 1, 3, 0b11100100);
            x.falls(0, 3);
            x.minutes(1);
            state(x, 48250, 1, 1, 0, 1);
            x.minutes(1);
            state(x, 47100, 2, 3, 1, 4);
            c.due("SPEED stays", 47100, () -> x.minutes(1));
            c.due("SPEED stays", 47100, () -> x.minutes(10));
            state(x, 47100, 13, 3, 1, 4);
            c.due("till 1000", 47100, () -> x.minutes(987));
            c.refused("not beyond", () -> x.minutes(1));
            state(x, 47100, 1000, 3, 1, 4);
            c.yes("the next NIGHT", () -> x.night(1, 1, 1, 0b11100100));
            state(x, 50000, 0, 0, 0, 1);
            x.minutes(1);
            state(x, 50000, 1, 0, 0, 1);
            x.night(0, 1, 1, 0b11100100);
            c.due("isn't DARK at first", 48250, () -> x.minutes(1));
        });
    }

    private static void night() {
        c.sentence("of MILL m units in bits 4 m to 4 m + 3", () -> {
            LightsMarket x = one(9, 1, 2, 3, 7);
            x.night(0, 0x7321, 1, 0);
            c.due("all", 13, () -> x.ofNight(4));
            int[] units = {0x1, 0x20, 0x300, 0x7000};
            int[] made = {1, 2, 3, 7};
            for (int m = 0; m < 4; m++) {
                int told = units[m];
                c.yes("units of MILL " + m, () -> x.night(0, told, 1, 0));
                c.due("made", made[m], () -> x.ofNight(4));
            }
        });
        c.sentence("THE ORDER as PLACES, 2 bits each, the first lowest (all other bits don't matter)", () -> {
            LightsMarket x = land(9, 9);
            c.yes("1, 0", () -> x.night(0, 0, 1, 0b0001));
            x.minutes(2);
            c.due("1 is cut first", 2, () -> x.ofNight(2));
            c.yes("0, 1, and other bits", () -> x.night(0, -1, 1, 0xfffffff4));
            x.minutes(2);
            c.due("0 is cut first", 1, () -> x.ofNight(2));
            LightsMarket y = one(1, 7);
            c.yes("units in bits of no MILL", () -> y.night(0, 0xfffffff5, 1, LOWEST));
            c.due("made", 5, () -> y.ofNight(4));
            LightsMarket z = new LightsMarket();
            c.yes("no PLACES, no MILLS: no bits matter", () -> z.night(3, -1, 3, -1));
            c.due("made", 0, () -> z.ofNight(4));
        });
        c.sentence("False: units above a MILL's most, RAMP not as told, or THE ORDER isn't right.", () -> {
            LightsMarket x = land(1, 1, 1);
            x.mill(0, 0, 0, 3, 1, 0, 0, 0, 0);
            x.mill(0, 3, 0, 7, 1, 0, 0, 0, 0);
            int right = 0b100100;
            c.yes("just the mosts, though no WIND comes", () -> x.night(0, 0x73, 1, right));
            c.no("4 of 3", () -> x.night(0, 0x74, 1, right));
            c.no("8 of 7", () -> x.night(0, 0x83, 1, right));
            c.no("15 of 7", () -> x.night(0, 0xf3, 1, right));
            c.no("9 of 7", () -> x.night(0, 0x93, 1, right));
            for (int most = 1; most <= 7; most++) {
                LightsMarket y = one(0, most);
                for (int units = 0; units < 16; units++) {
                    int told = units;
                    c.due(units + " of " + most, units <= most ? 1 : 0, () -> y.night(0, told, 1, 0) ? 1 : 0);
                }
            }
            for (int bad : new int[] {0, -1, 4, LOWEST, HIGHEST}) {
                c.no("RAMP " + bad, () -> x.night(0, 0, bad, right));
            }
            for (int bad : new int[] {0b000000, 0b010100, 0b010101, 0b110100, 0b100101, 0b111001}) {
                c.no("THE ORDER " + bad, () -> x.night(0, 0, 1, bad));
            }
            state(x, 50000, 0, 0, 0, 10);
            for (int good : new int[] {0b100100, 0b011000, 0b100001, 0b001001, 0b010010, 0b000110}) {
                c.yes("THE ORDER " + good, () -> x.night(0, 0, 1, good));
            }
        });
    }

    private static void falls() {
        c.sentence("A MILL falls in a minute (0 to 999, the first is 0): true.", () -> {
            LightsMarket x = one(3, 7, 7);
            x.night(0, 3, 1, 0);
            for (int bad : new int[] {-1, 1000, LOWEST, HIGHEST}) {
                c.no("minute " + bad, () -> x.falls(0, bad));
            }
            c.yes("minute 0", () -> x.falls(0, 0));
            c.yes("minute 999", () -> x.falls(1, 999));
        });
        c.sentence("False: there is no NIGHT, it was told to fall, or that minute is over,"
                + " or it came behind the NIGHT's beginning.", () -> {
            LightsMarket x = one(3, 7, 7, 7);
            c.no("there is no NIGHT", () -> x.falls(0, 0));
            c.no("a night() that isn't right", () -> x.night(0, 8, 1, 0));
            c.no("there is no NIGHT still", () -> x.falls(0, 0));
            x.night(0, 3, 1, 0);
            x.minutes(2);
            c.no("minute 1 is over", () -> x.falls(0, 1));
            c.yes("minute 2 isn't", () -> x.falls(0, 2));
            c.no("it was told to fall", () -> x.falls(0, 2));
            c.no("it was told to fall in another one", () -> x.falls(0, 7));
            x.minutes(3);
            c.no("it fell", () -> x.falls(0, 7));
            c.yes("one that makes none", () -> x.falls(1, 5));
            x.mill(0, 0, 0, 7, 1, 0, 0, 0, 0);
            c.no("it came behind the beginning", () -> x.falls(3, 100));
            c.yes("one that was there", () -> x.falls(2, 100));
            x.night(0, 3, 1, 0);
            c.yes("the next NIGHT has it", () -> x.falls(3, 100));
            c.yes("nobody was told to fall in it", () -> x.falls(0, 0));
        });
    }

    private static void minutes() {
        c.sentence("NONE: there is no NIGHT (ahead of the exception).", () -> {
            LightsMarket x = one(3, 7);
            for (int n : new int[] {0, 1, -1, 1000, 1001, LOWEST, HIGHEST}) {
                c.due("minutes " + n, -1, () -> x.minutes(n));
            }
        });
        c.sentence("n is not 0 to 1000, or it would be above 1000 in all", () -> {
            LightsMarket x = one(3, 7);
            x.night(0, 2, 1, 0);
            for (int bad : new int[] {-1, 1001, LOWEST, HIGHEST}) {
                c.refused("n " + bad, () -> x.minutes(bad));
            }
            state(x, 50000, 0, 0, 0, 2);
            c.due("none go by", 50000, () -> x.minutes(0));
            c.due("one", 49950, () -> x.minutes(1));
            c.refused("1000 more", () -> x.minutes(1000));
            c.refused("the highest more", () -> x.minutes(HIGHEST));
            state(x, 49950, 1, 0, 0, 2);
            c.due("999 more", 1000, () -> x.minutes(999) > 0 ? x.ofNight(1) : 0);
            c.refused("one above", () -> x.minutes(1));
            c.yes("none above", () -> x.minutes(0) > 0);
            x.night(0, 3, 1, 0);
            c.due("1000 at once", 50000, () -> x.minutes(1000));
        });
    }

    private static void ofNight() {
        c.sentence("0 SPEED, 1 minutes, 2 PLACES that are cut (bits), 3 whether DARK (1), 4 what all MILLS make", () -> {
            LightsMarket x = land(9, 9, 9, 9);
            x.mill(0, 0, 0, 7, 1, 0, 0, 0, 0);
            x.mill(3, 3, 0, 7, 1, 0, 0, 0, 0);
            // THE ORDER: 3, 1, 0, 2; 36 LOADS
            x.night(0, 0x57, 1, 0b10000111);
            state(x, 50000, 0, 0, 0, 12);
            x.falls(1, 1);
            x.minutes(1);
            state(x, 48800, 1, 8, 0, 12);
            x.minutes(1);
            state(x, 47800, 2, 10, 0, 7);
            x.minutes(1);
            state(x, 47250, 3, 11, 1, 7);
        });
        c.sentence("NoSuchElementException: another what, no NIGHT.", () -> {
            LightsMarket x = one(3, 7);
            for (int what = 0; what < 5; what++) {
                int w = what;
                c.missing("no NIGHT", () -> x.ofNight(w));
            }
            x.night(0, 3, 1, 0);
            for (int bad : new int[] {-1, 5, LOWEST, HIGHEST}) {
                c.missing("what " + bad, () -> x.ofNight(bad));
            }
            c.missing("a night() of no QUARTER", () -> x.night(4, 0, 1, 0) ? 1 : 0);
            state(x, 50000, 0, 0, 0, 3);
        });
    }

    private static void row(LightsMarket x, int quarter, int... want) {
        c.due("way", want.length, () -> x.way(quarter));
        for (int i = 0; i < want.length; i++) {
            int k = i;
            c.due("ACT " + i, want[i], () -> x.act(k));
        }
        c.missing("the ACT behind", () -> x.act(want.length));
    }

    private static LightsMarket startsAt(int place, int most, int... loads) {
        LightsMarket x = land(loads);
        x.mill(place, 0, 0, most, 1, 0, 3, 0, 0);
        x.starts(0, true, 0);
        return x;
    }

    private static void acts() {
        c.sentence("at first nothing is LIT, ON, served", () -> {
            LightsMarket x = land(0);
            c.due("a PLACE without a MILL", -1, () -> x.way(0));
            x.mill(0, 3, 0, 1, 1, 0, 0, 0, 0);
            c.due("its MILL doesn't start alone", -1, () -> x.way(0));
            x.starts(0, true, 0);
            row(x, 0, 0, 9);
            row(new LightsMarket(), 0);
        });
        c.sentence("a LINE from a LIT PLACE makes the other one LIT", () -> {
            LightsMarket x = startsAt(1, 7, 1, 1, 1);
            x.line(0, 1, 1, 0);
            x.line(2, 1, 1, 0);
            row(x, 0, 0, 4, 5, 9, 10, 11);
            LightsMarket y = startsAt(0, 7, 1, 1, 1);
            y.line(1, 2, 1, 9);
            y.line(2, 0, 1, 9);
            row(y, 0, 0, 5, 4, 9, 10, 11);
            LightsMarket z = startsAt(0, 7, 1, 1, 1);
            z.line(1, 2, 1, 9);
            c.due("no LINE from a LIT PLACE", -1, () -> z.way(0));
        });
        c.sentence("another MILL at a LIT PLACE comes ON", () -> {
            LightsMarket x = startsAt(0, 3, 2, 4);
            x.mill(1, 0, 0, 3, 1, 0, 0, 0, 0);
            c.due("its PLACE isn't LIT", -1, () -> x.way(0));
            x.line(0, 1, 1, 9);
            row(x, 0, 0, 4, 1, 9, 10);
        });
        c.sentence("A MILL that comes ON makes its PLACE LIT.", () -> {
            LightsMarket x = startsAt(0, 3, 2, 4);
            x.mill(1, 0, 0, 3, 1, 0, 0, 0, 0);
            x.starts(1, true, 0);
            row(x, 0, 0, 1, 9, 10);
        });
    }

    private static void served() {
        c.sentence("a PLACE that is LIT has its LOAD of that QUARTER served", () -> {
            LightsMarket x = startsAt(0, 5, 0);
            Setup.loads(x, 0, 0, 5, 6, 0, 9);
            row(x, 0, 0, 9);
            c.due("6 of 5", -1, () -> x.way(1));
            row(x, 2, 0, 9);
            c.due("9 of 5", -1, () -> x.way(3));
        });
        c.sentence("is no less than all LOADS served then", () -> {
            row(startsAt(0, 5, 5), 0, 0, 9);
            c.due("6 of 5", -1, () -> startsAt(0, 5, 6).way(0));
            LightsMarket x = startsAt(0, 5, 3, 2);
            x.line(0, 1, 1, 9);
            row(x, 0, 0, 4, 9, 10);
            LightsMarket y = startsAt(0, 5, 3, 3);
            y.line(0, 1, 1, 9);
            c.due("3 and 3 of 5", -1, () -> y.way(0));
            c.due("0 and 0 of 5", 4, () -> y.way(1));
        });
        c.sentence("(WIND: what COMES, no more than most; WATER its most)", () -> {
            LightsMarket x = land(4);
            x.mill(0, 3, 0, 5, 1, 0, 0, 0, 0);
            x.starts(0, true, 0);
            Setup.comes(x, 0, 0, 3, 0, 4, 0);
            c.due("3 come", -1, () -> x.way(0));
            row(x, 2, 0, 9);
            row(x, 1, 0, 9);
            LightsMarket y = land(6);
            y.mill(0, 3, 0, 5, 1, 0, 0, 0, 0);
            y.starts(0, true, 0);
            Setup.comes(y, 0, 0, 7, 7, 7, 7);
            c.due("7 come of 5", -1, () -> y.way(0));
            LightsMarket z = land(6);
            z.mill(0, 2, 0, 6, 1, 0, 0, 0, 0);
            z.starts(0, true, 0);
            row(z, 0, 0, 9);
            Setup.loads(z, 0, 0, 7, 7, 7, 7);
            c.due("7 of WATER's 6", -1, () -> z.way(0));
        });
        c.sentence("behind which all PLACES are LIT and served", () -> {
            LightsMarket x = startsAt(0, 7, 0, 0);
            x.line(0, 1, 1, 9);
            row(x, 0, 0, 4, 9, 10);
            x.place();
            c.due("one that can't be LIT", -1, () -> x.way(0));
        });
    }

    private static void needs() {
        c.sentence("needs so many units as told while it comes ON (0 to 7): they must be there beside LOADS served", () -> {
            for (int needs = 0; needs <= 7; needs++) {
                LightsMarket x = startsAt(0, 3, 3, 4);
                x.line(0, 1, 1, 9);
                x.mill(0, 0, 0, 7, 1, 0, 0, 0, 0);
                x.starts(1, false, needs);
                if (needs <= 3) {
                    row(x, 0, 0, 1, 4, 9, 10);
                } else {
                    c.due("needs " + needs, -1, () -> x.way(0));
                }
            }
            // 3 and 5 are ON before the one that needs 7; its own 1 is needed in the end
            LightsMarket y = startsAt(0, 3, 9);
            y.mill(0, 0, 0, 1, 1, 0, 0, 0, 0);
            y.mill(0, 0, 0, 5, 1, 0, 0, 0, 0);
            y.starts(1, false, 7);
            y.starts(2, false, 3);
            row(y, 0, 0, 2, 1, 9);
        });
    }

    private static void shortest() {
        c.sentence("fewest, of like ones the first as a row of ACTS, by their numbers", () -> {
            LightsMarket x = startsAt(0, 7, 1, 1);
            x.line(0, 1, 1, 9);
            x.line(0, 1, 1, 9);
            x.mill(1, 0, 0, 7, 1, 0, 0, 0, 0);
            row(x, 0, 0, 4, 9, 10);
            x.starts(1, true, 0);
            row(x, 0, 0, 1, 9, 10);
            x.starts(0, false, 0);
            row(x, 0, 1, 4, 9, 10);
        });
        c.sentence("MILLS 0 to 3, LINES 4 to 8, LOADS of PLACES 9 to 12", () -> {
            LightsMarket x = land(7, 7, 7, 7);
            for (int m = 3; m >= 0; m--) {
                x.mill(m, 0, 0, 7, 1, 0, 0, 0, 0);
            }
            x.starts(3, true, 0);
            x.line(3, 2, 1, 9);
            x.line(3, 2, 1, 9);
            x.line(3, 2, 1, 9);
            x.line(1, 0, 1, 9);
            x.line(1, 2, 1, 9);
            row(x, 0, 3, 7, 2, 8, 1, 4, 0, 9, 10, 11, 12);
        });
    }

    private static void starts() {
        c.sentence("A MILL starts alone, or needs so many units (0 to 7): true. False: not as told.", () -> {
            LightsMarket x = startsAt(0, 3, 3);
            for (int bad : new int[] {-1, 8, LOWEST, HIGHEST}) {
                c.no("needs " + bad, () -> x.starts(0, false, bad));
                c.no("alone, needs " + bad, () -> x.starts(0, true, bad));
            }
            row(x, 0, 0, 9);
            c.yes("needs 0", () -> x.starts(0, false, 0));
            c.yes("needs 7", () -> x.starts(0, false, 7));
            c.due("not alone any more", -1, () -> x.way(0));
            c.yes("alone, needs 7", () -> x.starts(0, true, 7));
            row(x, 0, 0, 9);
        });
        c.sentence("At first it needs 0.", () -> {
            LightsMarket x = startsAt(0, 3, 9);
            x.mill(0, 0, 0, 6, 1, 0, 0, 0, 0);
            row(x, 0, 0, 1, 9);
            x.starts(1, false, 4);
            c.due("then 4", -1, () -> x.way(0));
            LightsMarket y = land(1);
            y.mill(0, 0, 0, 6, 1, 0, 0, 0, 0);
            c.due("at first it doesn't start alone", -1, () -> y.way(0));
        });
    }

    private static void way() {
        c.sentence("is found and kept: how many. NONE (what was kept stays): there is none.", () -> {
            LightsMarket x = startsAt(0, 3, 3);
            c.missing("none is kept", () -> x.act(0));
            row(x, 0, 0, 9);
            Setup.loads(x, 0, 0, 4, 3, 0, 0);
            c.due("there is none", -1, () -> x.way(0));
            c.due("what was kept", 0, () -> x.act(0));
            c.due("what was kept", 9, () -> x.act(1));
            x.place();
            c.due("there is none", -1, () -> x.way(1));
            c.due("what was kept", 9, () -> x.act(1));
            x.line(0, 1, 1, 9);
            row(x, 1, 0, 4, 9, 10);
        });
    }

    private static void act() {
        c.sentence("The i-th ACT of the row that is kept. NoSuchElementException: there is none.", () -> {
            LightsMarket x = startsAt(0, 3, 3);
            x.way(0);
            for (int bad : new int[] {-1, 2, 13, LOWEST, HIGHEST}) {
                c.missing("ACT " + bad, () -> x.act(bad));
            }
            LightsMarket y = new LightsMarket();
            y.way(0);
            c.missing("a row of no ACTS", () -> y.act(0));
        });
    }
}
