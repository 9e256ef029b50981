/** Promises 24 to 27: A NIGHT by minutes. */
public final class NightTest {
    private static final Check c = new Check("NightTest");

    public static void main(String[] args) {
        arguments();
        orders();
        unitsTold();
        noNight();
        still();
        slower();
        faster();
        ramp();
        rampMost();
        falling();
        fallsArguments();
        fallsOrder();
        cutting();
        cutAll();
        darkness();
        edges();
        asItBegan();
        nextNight();
        minutesArguments();
        c.end();
    }

    private static LightsMarket one(int load, int... mosts) {
        LightsMarket x = new LightsMarket();
        x.place();
        x.sheet(0, 4);
        Setup.loads(x, 0, 0, load, 0, 0, 9);
        for (int most : mosts) {
            x.mill(0, 0, 0, most, 1, 0, 0, 0, 0);
        }
        return x;
    }

    private static void state(LightsMarket x, int speed, int gone, int cut, int dark, int made) {
        c.due("SPEED", speed, () -> x.ofNight(0));
        c.due("minutes", gone, () -> x.ofNight(1));
        c.due("cut", cut, () -> x.ofNight(2));
        c.due("DARK", dark, () -> x.ofNight(3));
        c.due("made", made, () -> x.ofNight(4));
    }

    private static void arguments() {
        LightsMarket x = one(3, 7);
        c.missing("quarter 4", () -> x.night(4, 0, 1, 0) ? 1 : 0);
        c.missing("quarter -1", () -> x.night(-1, 0, 1, 0) ? 1 : 0);
        c.no("ramp 0", () -> x.night(0, 0, 0, 0));
        c.no("ramp 4", () -> x.night(0, 0, 4, 0));
        c.no("ramp -1", () -> x.night(0, 0, -1, 0));
        c.missing("none began", () -> x.ofNight(0));
        c.yes("ramp 1", () -> x.night(0, 0, 1, 0));
        c.yes("ramp 3", () -> x.night(0, 0, 3, 0));
        c.missing("what 5", () -> x.ofNight(5));
        c.missing("what -1", () -> x.ofNight(-1));
    }

    private static void orders() {
        LightsMarket x = new LightsMarket();
        c.yes("no places", () -> x.night(0, 0, 1, -1));
        x.place();
        c.yes("one place", () -> x.night(0, 0, 1, 0));
        c.yes("other bits don't matter", () -> x.night(0, 0, 1, -4));
        c.no("place 1 of one", () -> x.night(0, 0, 1, 1));
        c.no("place 3 of one", () -> x.night(0, 0, 1, 3));
        Setup.places(x, 2);
        for (int order = 0; order < 64; order++) {
            int a = order & 3;
            int b = order >> 2 & 3;
            int d = order >> 4 & 3;
            boolean right = a < 3 && b < 3 && d < 3 && a != b && b != d && a != d;
            int told = order | 0x7fffffc0;
            c.due("order " + order, right ? 1 : 0, () -> x.night(0, 0, 1, told) ? 1 : 0);
        }
        x.place();
        c.yes("3 2 1 0", () -> x.night(0, 0, 1, 0b00011011));
        c.yes("3 2 1 0 with other bits", () -> x.night(0, 0, 1, 0xffffff00 | 0b00011011));
        c.no("3 2 1 1", () -> x.night(0, 0, 1, 0b01011011));
    }

    private static void unitsTold() {
        LightsMarket x = one(3, 7, 3);
        c.yes("7 and 3", () -> x.night(0, 0x37, 1, 0));
        c.due("made", 10, () -> x.ofNight(4));
        c.no("7 and 4", () -> x.night(0, 0x47, 1, 0));
        c.no("8 and 3", () -> x.night(0, 0x38, 1, 0));
        c.no("15", () -> x.night(0, 15, 1, 0));
        c.due("the earlier one goes on", 10, () -> x.ofNight(4));
        c.yes("bits of no mill don't matter", () -> x.night(0, 0xffffff12, 1, 0));
        c.due("made", 3, () -> x.ofNight(4));
        LightsMarket y = one(0, 1, 2, 3, 4);
        c.yes("four", () -> y.night(0, 0x4321, 1, 0));
        c.due("made", 10, () -> y.ofNight(4));
        c.no("3 of 2", () -> y.night(0, 0x4331, 1, 0));
        c.no("5 of 4", () -> y.night(0, 0x5321, 1, 0));
        c.no("2 of 1", () -> y.night(0, 0x4322, 1, 0));
        c.no("4 of 3", () -> y.night(0, 0x4421, 1, 0));
        c.yes("four and bits", () -> y.night(0, 0xffff0021, 1, 0));
        c.due("made", 3, () -> y.ofNight(4));
        LightsMarket z = new LightsMarket();
        z.place();
        z.mill(0, 3, 0, 5, 1, 0, 0, 0, 0);
        z.mill(0, 2, 0, 5, 1, 0, 0, 0, 0);
        z.mill(0, 1, 0, 5, 1, 4, 0, 0, 0);
        c.yes("wind that doesn't come, an empty lake, less than least", () -> z.night(0, 0x155, 1, 0));
        c.due("made", 11, () -> z.ofNight(4));
        c.no("6 of 5", () -> z.night(0, 0x600, 1, 0));
    }

    private static void noNight() {
        LightsMarket x = one(3, 7);
        c.no("falls in none", () -> x.falls(0, 0));
        c.missing("no such mill in none", () -> x.falls(1, 0) ? 1 : 0);
        c.due("minutes of none", -1, () -> x.minutes(1));
        c.due("none is ahead of the exception", -1, () -> x.minutes(-1));
        c.due("none is ahead of the exception", -1, () -> x.minutes(1001));
        for (int what = -1; what < 6; what++) {
            int w = what;
            c.missing("ofNight", () -> x.ofNight(w));
        }
    }

    private static void still() {
        LightsMarket x = one(3, 7);
        x.night(0, 3, 1, 0);
        state(x, 50000, 0, 0, 0, 3);
        c.due("nothing happens", 50000, () -> x.minutes(0));
        c.due("nothing happens in 10", 50000, () -> x.minutes(10));
        state(x, 50000, 10, 0, 0, 3);
        c.due("nor in 990", 50000, () -> x.minutes(990));
        state(x, 50000, 1000, 0, 0, 3);
    }

    private static void slower() {
        LightsMarket x = one(4, 7);
        x.night(0, 3, 1, 0);
        c.due("one too few", 49950, () -> x.minutes(1));
        c.due("49950 isn't below 49900", 49900, () -> x.minutes(1));
        state(x, 49900, 2, 0, 0, 3);
        c.due("49900 isn't either", 49850, () -> x.minutes(1));
        state(x, 49850, 3, 0, 0, 3);
        c.due("49850 is: one more is made", 49850, () -> x.minutes(1));
        state(x, 49850, 4, 0, 0, 4);
        c.due("one too many", 49900, () -> x.minutes(1));
        state(x, 49900, 5, 0, 0, 5);
        c.due("and so on", 49950, () -> x.minutes(1));
        c.due("up to 50000", 50000, () -> x.minutes(1));
        c.due("no more", 50000, () -> x.minutes(1));
        state(x, 50000, 8, 0, 0, 5);
    }

    private static void faster() {
        LightsMarket x = one(0, 7);
        x.night(0, 7, 1, 0);
        c.due("not above 50000", 50000, () -> x.minutes(1));
        x.night(3, 4, 3, 0);
        c.due("five too few", 49750, () -> x.minutes(1));
        c.due("two too few", 49650, () -> x.minutes(1));
    }

    private static void ramp() {
        for (int ramp = 1; ramp <= 3; ramp++) {
            LightsMarket x = one(9, 7, 7, 7);
            int told = ramp;
            x.night(0, 0x012, ramp, 0);
            c.due("six too few", 49700, () -> x.minutes(1));
            int made = 3 + 2 * told;
            c.due("each that makes some ramps up", 49700 - 50 * (9 - made), () -> x.minutes(1));
            c.due("made", made, () -> x.ofNight(4));
        }
    }

    private static void rampMost() {
        LightsMarket x = one(9, 3, 2);
        x.night(0, 0x12, 2, 0);
        x.minutes(2);
        state(x, 50000 - 300 - 200, 2, 0, 0, 5);
        x.minutes(1);
        state(x, 49300, 3, 0, 0, 5);
        LightsMarket y = new LightsMarket();
        y.place();
        y.sheet(0, 4);
        y.mill(0, 3, 0, 5, 1, 0, 0, 0, 0);
        y.mill(0, 2, 0, 4, 1, 0, 0, 0, 0);
        Setup.loads(y, 0, 0, 9, 9, 9, 9);
        y.night(0, 0x11, 3, 0);
        y.minutes(3);
        state(y, 50000 - 350 - 50 - 0, 3, 0, 0, 9);
    }

    private static void falling() {
        LightsMarket x = one(5, 3, 7);
        x.night(0, 0x23, 1, 0);
        c.yes("in minute 2", () -> x.falls(0, 2));
        x.minutes(2);
        state(x, 50000, 2, 0, 0, 5);
        x.minutes(1);
        state(x, 49850, 3, 0, 0, 2);
        x.minutes(1);
        state(x, 49750, 4, 0, 0, 3);
        x.minutes(2);
        state(x, 49700, 6, 0, 0, 5);
        c.no("it was told to fall", () -> x.falls(0, 8));
        c.yes("the other one in this minute", () -> x.falls(1, 6));
        x.minutes(1);
        state(x, 49450, 7, 0, 0, 0);
        x.minutes(1);
        state(x, 49200, 8, 0, 0, 0);
    }

    private static void fallsArguments() {
        LightsMarket x = one(3, 7, 7);
        x.night(0, 3, 1, 0);
        c.missing("no such mill", () -> x.falls(2, 0) ? 1 : 0);
        c.missing("mill -1", () -> x.falls(-1, 0) ? 1 : 0);
        c.missing("no such mill ahead of a bad minute", () -> x.falls(2, 1000) ? 1 : 0);
        c.no("minute -1", () -> x.falls(0, -1));
        c.no("minute 1000", () -> x.falls(0, 1000));
        c.no("far off", () -> x.falls(0, Integer.MAX_VALUE));
        c.no("far below", () -> x.falls(0, Integer.MIN_VALUE));
        x.minutes(5);
        c.no("minute 4 is over", () -> x.falls(0, 4));
        c.yes("minute 5 isn't", () -> x.falls(0, 5));
        c.no("told once", () -> x.falls(0, 6));
        c.yes("minute 999", () -> x.falls(1, 999));
        x.mill(0, 0, 0, 7, 1, 0, 0, 0, 0);
        c.no("it came later", () -> x.falls(2, 500));
        x.night(0, 3, 1, 0);
        c.yes("the next night", () -> x.falls(2, 500));
        c.yes("the first again", () -> x.falls(0, 0));
    }

    /** A fall is ahead of the ramp, the ramp ahead of the SPEED. */
    private static void fallsOrder() {
        LightsMarket x = one(9, 4, 4);
        x.night(0, 0x33, 1, 0);
        x.falls(0, 1);
        x.minutes(1);
        state(x, 49850, 1, 0, 0, 6);
        x.minutes(1);
        state(x, 49850 - 250, 2, 0, 0, 4);
    }

    private static void cutting() {
        LightsMarket x = new LightsMarket();
        Setup.places(x, 3);
        x.sheet(0, 4);
        x.mill(0, 0, 0, 7, 1, 0, 0, 0, 0);
        Setup.loads(x, 0, 0, 4, 0, 0, 0);
        Setup.loads(x, 0, 1, 5, 0, 0, 0);
        Setup.loads(x, 0, 2, 6, 0, 0, 0);
        // the order is 1, 2, 0; all 15 loads, 5 made
        x.night(0, 5, 3, 0b001001);
        x.minutes(1);
        state(x, 49500, 1, 0, 0, 5);
        x.minutes(1);
        state(x, 49100, 2, 0, 0, 7);
        x.minutes(1);
        state(x, 48700, 3, 2, 0, 7);
        x.minutes(1);
        state(x, 48550, 4, 6, 0, 7);
        x.minutes(1);
        state(x, 48700, 5, 7, 0, 7);
        x.minutes(1);
        state(x, 49050, 6, 7, 0, 7);
        x.minutes(3);
        state(x, 50000, 9, 7, 0, 7);
    }

    private static void cutAll() {
        LightsMarket x = one(9, 7);
        x.night(0, 0, 1, 0);
        x.minutes(2);
        state(x, 49100, 2, 0, 0, 0);
        x.minutes(1);
        state(x, 48650, 3, 1, 0, 0);
        x.minutes(100);
        state(x, 48650, 103, 1, 0, 0);
        x.night(0, 0, 1, -4);
        x.minutes(10);
        state(x, 48650, 10, 1, 0, 0);
    }

    private static void darkness() {
        LightsMarket x = new LightsMarket();
        Setup.places(x, 4);
        x.sheet(0, 4);
        x.mill(0, 0, 0, 7, 1, 0, 0, 0, 0);
        for (int p = 0; p < 4; p++) {
            Setup.loads(x, 0, p, 9, 9, 9, 9);
        }
        x.night(0, 1, 1, 0b11100100);
        x.minutes(1);
        state(x, 48250, 1, 1, 0, 1);
        x.falls(0, 4);
        x.minutes(1);
        state(x, 47000, 2, 3, 1, 2);
        c.due("nothing more happens", 47000, () -> x.minutes(10));
        state(x, 47000, 12, 3, 1, 2);
        c.no("told to fall", () -> x.falls(0, 20));
        x.night(0, 7, 1, 0b11100100);
        state(x, 50000, 0, 0, 0, 7);
    }

    /** 49000 isn't below 49000, 47500 not below 47500. */
    private static void edges() {
        LightsMarket x = one(5, 7);
        x.night(0, 0, 1, 0);
        x.minutes(4);
        state(x, 49000, 4, 0, 0, 0);
        x.minutes(1);
        state(x, 48750, 5, 1, 0, 0);
        LightsMarket y = new LightsMarket();
        Setup.places(y, 4);
        y.sheet(0, 4);
        Setup.loads(y, 0, 0, 5, 9, 0, 0);
        Setup.loads(y, 0, 1, 9, 9, 0, 0);
        Setup.loads(y, 0, 2, 9, 9, 0, 0);
        Setup.loads(y, 0, 3, 2, 3, 0, 0);
        y.night(0, 0, 1, 0b11100100);
        y.minutes(1);
        state(y, 48750, 1, 1, 0, 0);
        y.minutes(1);
        state(y, 47750, 2, 3, 0, 0);
        y.minutes(1);
        state(y, 47200, 3, 7, 1, 0);
        darkEdge();
    }

    private static void darkEdge() {
        LightsMarket z = new LightsMarket();
        Setup.places(z, 3);
        z.sheet(0, 4);
        Setup.loads(z, 0, 0, 8, 0, 0, 0);
        Setup.loads(z, 0, 1, 8, 0, 0, 0);
        Setup.loads(z, 0, 2, 9, 0, 0, 0);
        z.night(0, 0, 1, 0b100100);
        z.minutes(1);
        state(z, 48750, 1, 1, 0, 0);
        z.minutes(1);
        state(z, 47900, 2, 3, 0, 0);
        z.minutes(1);
        state(z, 47450, 3, 7, 1, 0);
        Setup.loads(z, 0, 2, 8, 0, 0, 0);
        Setup.loads(z, 0, 0, 9, 0, 0, 0);
        z.night(0, 0, 1, 0b100100);
        z.minutes(2);
        state(z, 47950, 2, 3, 0, 0);
        z.minutes(1);
        state(z, 47550, 3, 7, 0, 0);
        Setup.loads(z, 0, 1, 9, 0, 0, 0);
        Setup.loads(z, 0, 0, 8, 0, 0, 0);
        z.night(0, 0, 1, 0b100100);
        z.minutes(2);
        state(z, 47900, 2, 3, 0, 0);
        z.minutes(1);
        state(z, 47500, 3, 7, 0, 0);
        z.minutes(1);
        state(z, 47500, 4, 7, 0, 0);
    }

    private static void asItBegan() {
        LightsMarket x = one(3, 7);
        x.night(0, 2, 1, 0);
        Setup.loads(x, 0, 0, 9, 9, 9, 9);
        x.place();
        Setup.loads(x, 0, 1, 9, 9, 9, 9);
        x.mill(0, 0, 0, 7, 1, 0, 0, 0, 0);
        c.due("loads as they began", 49950, () -> x.minutes(1));
        state(x, 49950, 1, 0, 0, 2);
    }

    private static void nextNight() {
        LightsMarket x = one(9, 7);
        x.night(0, 0, 1, 0);
        x.falls(0, 999);
        x.minutes(50);
        state(x, 48650, 50, 1, 0, 0);
        c.no("not as told", () -> x.night(0, 8, 1, 0));
        state(x, 48650, 50, 1, 0, 0);
        c.yes("the next one", () -> x.night(1, 1, 1, 0));
        state(x, 50000, 0, 0, 0, 1);
        c.yes("it wasn't told yet", () -> x.falls(0, 0));
        x.minutes(1);
        state(x, 50000, 1, 0, 0, 0);
    }

    private static void minutesArguments() {
        LightsMarket x = one(3, 7);
        x.night(0, 3, 1, 0);
        c.refused("minutes -1", () -> x.minutes(-1));
        c.refused("minutes 1001", () -> x.minutes(1001));
        c.refused("far off", () -> x.minutes(Integer.MAX_VALUE));
        c.due("none went by", 0, () -> x.ofNight(1));
        x.minutes(1);
        c.refused("1000 and one", () -> x.minutes(1000));
        c.due("one went by", 1, () -> x.ofNight(1));
        c.due("999", 50000, () -> x.minutes(999));
        c.due("none more", 50000, () -> x.minutes(0));
        c.refused("one more", () -> x.minutes(1));
        c.no("it is over", () -> x.falls(0, 999));
    }
}
