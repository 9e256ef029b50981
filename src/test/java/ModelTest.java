import java.util.ArrayList;
import java.util.List;

/** Runs of calls, the same ones each time, on the class and on the Model: the answers have to be alike. */
public final class ModelTest {
    private static final Check c = new Check("ModelTest");
    private long seed;

    public static void main(String[] args) {
        int first = args.length > 0 ? Integer.parseInt(args[0]) : 1;
        int many = args.length > 1 ? Integer.parseInt(args[1]) : 400;
        for (int i = first; i < first + many && c.wrong() < 5; i++) {
            new ModelTest(i).play(i);
        }
        c.end();
    }

    private ModelTest(int number) {
        seed = number * 7919L + 12345;
        for (int i = 0; i < 5; i++) {
            below(2);
        }
    }

    private int below(int n) {
        seed = seed * 6364136223846793005L + 1442695040888963407L;
        return (int) ((seed >>> 33) % n);
    }

    private boolean oneIn(int n) {
        return below(n) == 0;
    }

    private final LightsMarket x = new LightsMarket();
    private final Model m = new Model();
    private final List<String> log = new ArrayList<>();
    private int calls;
    private int run;
    /** Whether most of what is asked for can be met. */
    private boolean easy;

    private long same(String call, Check.Call real, Check.Call due) {
        calls++;
        long want = Check.run(due);
        long got = Check.run(real);
        log.add(call + " -> " + got);
        if (want != got) {
            System.out.println("run " + run + ":");
            for (String s : log) {
                System.out.println("    " + s);
            }
        }
        c.same("run " + run + ", " + call, want, got);
        return want;
    }

    private static long bit(boolean b) {
        return b ? 1 : 0;
    }

    private void play(int number) {
        run = number;
        easy = number % 3 > 0;
        lay();
        for (int i = 0; calls < 500 && i < 120 && c.wrong() == 0; i++) {
            step();
        }
    }

    /** A land that can mostly be met. */
    private void lay() {
        int places = oneIn(12) ? below(5) : 1 + below(4);
        for (int i = 0; i < places; i++) {
            same("place()", x::place, m::place);
        }
        if (places == 0) {
            return;
        }
        for (int p = 1; p < places; p++) {
            if (!oneIn(30)) {
                line(below(p), p);
            }
        }
        for (int i = below(4); i > 0; i--) {
            line(below(places), below(places));
        }
        for (int i = oneIn(6) ? below(5) : easy ? 3 + below(2) : 2 + below(3); i > 0; i--) {
            mill(below(places));
        }
        same("sheet(0, 12)", () -> x.sheet(0, 12), () -> m.sheet(0, 12));
        for (int i = 0; i < 12; i++) {
            write(0, i, below(oneIn(3) ? 7 : easy ? 3 : 4));
        }
        for (int p = 0; p < places; p++) {
            day(0, p, 0, below(9));
        }
        for (int i = 0; i < m.mills.size(); i++) {
            if (m.mills.get(i).kind == 3) {
                day(1, i, 0, below(9));
            }
        }
    }

    private void line(int a, int b) {
        int stiffness = 1 + below(oneIn(2) ? 9 : 3);
        int most = oneIn(easy ? 9 : 3) ? below(4) : (easy ? 4 : 2) + below(8);
        same("line(" + a + ", " + b + ", " + stiffness + ", " + most + ")",
                () -> x.line(a, b, stiffness, most), () -> m.line(a, b, stiffness, most));
    }

    private void mill(int place) {
        int kind = easy && oneIn(2) ? below(2) : below(4);
        int house = below(3);
        int most = 1 + below(7);
        int cost = oneIn(2) ? below(5) : below(1000);
        int a = kind == 3 ? 0 : kind == 2 ? below(16) : oneIn(easy ? 6 : 3) ? below(most + 1) : 0;
        int b = kind == 3 ? 0 : kind == 2 ? below(8) : oneIn(easy ? 4 : 2) ? below(4) : 0;
        int z = kind > 1 ? 0 : oneIn(2) ? below(60) : below(10000);
        int r = kind != 1 ? 0 : oneIn(2) ? below(20) : below(1000);
        millOf(place, kind, house, most, cost, a, b, z, r);
    }

    private void millOf(int place, int kind, int house, int most, int cost, int a, int b, int z, int r) {
        same("mill(" + place + ", " + kind + ", " + house + ", " + most + ", " + cost + ", " + a + ", " + b + ", "
                + z + ", " + r + ")", () -> x.mill(place, kind, house, most, cost, a, b, z, r),
                () -> m.mill(place, kind, house, most, cost, a, b, z, r));
    }

    private void write(int sheet, int at, int v) {
        same("write(" + sheet + ", " + at + ", " + v + ")", () -> x.write(sheet, at, v), () -> m.write(sheet, at, v));
    }

    private void day(int what, int number, int sheet, int at) {
        same("day(" + what + ", " + number + ", " + sheet + ", " + at + ")",
                () -> x.day(what, number, sheet, at), () -> m.day(what, number, sheet, at));
    }

    private int any() {
        switch (below(8)) {
            case 0:
                return -1;
            case 1:
                return Integer.MAX_VALUE - below(3);
            case 2:
                return Integer.MIN_VALUE + below(3);
            case 3:
                return below(2000) - 1000;
            default:
                return below(16) - 2;
        }
    }

    /** Mostly one of so many numbers, seldom any. */
    private int some(int n) {
        return oneIn(25) || n <= 0 ? any() : below(n);
    }

    private void step() {
        switch (below(24)) {
            case 0:
                stepLand();
                break;
            case 1:
                stepSheets();
                break;
            case 2:
            case 3:
            case 4:
                stepOffer();
                break;
            case 5:
                stepRules();
                break;
            case 6:
                stepFlow();
                break;
            case 7:
            case 8:
            case 9:
                stepLeast();
                break;
            case 10:
            case 11:
            case 12:
                stepPlan();
                break;
            case 13:
            case 14:
                stepGame();
                break;
            case 15:
                stepAlone();
                break;
            case 16:
            case 17:
                stepNight();
                break;
            case 18:
            case 19:
            case 20:
                stepWay();
                break;
            case 21:
                stepMeter();
                break;
            case 22:
                stepBill();
                break;
            default:
                stepCount();
                break;
        }
    }

    private void stepLand() {
        if (oneIn(3)) {
            same("place()", x::place, m::place);
        } else if (oneIn(2)) {
            line(some(m.places), some(m.places));
        } else if (oneIn(2)) {
            mill(some(m.places));
        } else {
            millOf(some(m.places), some(4), some(3), some(8), some(1000), some(8), some(4), some(2) * 100, some(2));
        }
    }

    private void stepSheets() {
        int a = some(m.sheets.size());
        int b = some(m.sheets.size());
        switch (below(4)) {
            case 0:
                int sort = some(3);
                int size = some(14) - 1;
                same("sheet(" + sort + ", " + size + ")", () -> x.sheet(sort, size), () -> m.sheet(sort, size));
                break;
            case 1:
                write(a, some(12), oneIn(3) ? any() * 40000 : below(7));
                break;
            case 2:
                int at = some(12);
                int on = some(12);
                int n = some(6);
                same("copy(" + a + ", " + at + ", " + b + ", " + on + ", " + n + ")",
                        () -> x.copy(a, at, b, on, n), () -> m.copy(a, at, b, on, n));
                break;
            default:
                int what = some(2);
                day(what, some(what == 0 ? m.places : m.mills.size()), oneIn(2) ? 0 : a, some(9));
                break;
        }
    }

    private void tell(String text) {
        for (int i = 0; i < text.length(); i += 20) {
            int[] v = new int[5];
            for (int k = 0; k < 20; k++) {
                v[k / 4] = v[k / 4] << 8 | (i + k < text.length() ? text.charAt(i + k) & 255 : 32);
            }
            same("feed(" + v[0] + ", " + v[1] + ", " + v[2] + ", " + v[3] + ", " + v[4] + ")",
                    () -> x.feed(v[0], v[1], v[2], v[3], v[4]), () -> m.feed(v));
        }
    }

    private void stepOffer() {
        String text = oneIn(6) ? "" : new Texts(below(1 << 30)).offer();
        if (oneIn(12)) {
            text = text + "   " + text;
        }
        tell(text);
        int mill = some(m.mills.size());
        int n = oneIn(20) ? any() : oneIn(8) ? below(m.tape.length() + 2) : Math.min(text.length(), m.tape.length());
        same("offer(" + mill + ", " + n + ") of '" + m.tape + "'", () -> x.offer(mill, n), () -> m.offer(mill, n));
        same("fault()", x::fault, () -> m.faultPlace);
        for (int i = below(4); i > 0; i--) {
            int unit = 1 + some(7);
            int quarter = some(4);
            int asked = oneIn(2) ? mill : some(m.mills.size());
            same("asked(" + asked + ", " + unit + ", " + quarter + ")",
                    () -> x.asked(asked, unit, quarter), () -> m.asked(asked, unit, quarter));
        }
    }

    private void stepRules() {
        boolean falls = oneIn(2);
        int slack = oneIn(5) ? some(100) : below(5);
        int wholes = some(101);
        same("rules(" + falls + ", " + slack + ", " + wholes + ")", () -> bit(x.rules(falls, slack, wholes)),
                () -> bit(m.rules(falls, slack, wholes)));
    }

    private void stepFlow() {
        for (int i = 0; i < 4; i++) {
            int line = some(m.lines.size());
            int a = some(m.places);
            int b = some(m.places);
            int what = some(2);
            same("flow(" + line + ", " + a + ", " + b + ", " + what + ")",
                    () -> x.flow(line, a, b, what), () -> m.flow(line, a, b, what));
        }
    }

    private void stepLeast() {
        int quarter = some(4);
        int on = oneIn(4) ? any() : 15 - below(6);
        int w = oneIn(2) ? 0 : some(8);
        same("least(" + quarter + ", " + on + ", " + w + ")",
                () -> x.least(quarter, on, w), () -> m.least(quarter, on, w));
        for (int i = 0; i < m.mills.size(); i++) {
            int mill = oneIn(30) ? any() : i;
            same("units(" + mill + ")", () -> x.units(mill), () -> m.units(mill));
        }
    }

    private void stepPlan() {
        if (oneIn(2)) {
            int n = 1 + some(4);
            int on = oneIn(3) ? any() : below(16);
            same("plan(" + n + ", " + on + ")", () -> x.plan(n, on), () -> m.plan(n, on));
        }
        for (int q = 0; q < 4; q++) {
            int quarter = oneIn(30) ? any() : q;
            int what = oneIn(6) ? some(9) : below(2) == 0 ? below(2) : 4 + below(4);
            int place = some(m.places);
            same("planned(" + quarter + ", " + what + ")",
                    () -> x.planned(quarter, what), () -> m.planned(quarter, what));
            same("price(" + place + ", " + quarter + ")",
                    () -> x.price(place, quarter), () -> m.price(place, quarter));
        }
        int mill = oneIn(5) ? -1 : some(m.mills.size());
        for (int k = 0; k < 3; k++) {
            int what = oneIn(30) ? any() : k;
            same("pays(" + mill + ", " + what + ")", () -> x.pays(mill, what), () -> m.pays(mill, what));
        }
        same("pays(-1, 0)", () -> x.pays(-1, 0), () -> m.pays(-1, 0));
    }

    private void stepGame() {
        if (oneIn(2)) {
            int quarter = some(4);
            same("game(" + quarter + ")", () -> x.game(quarter), () -> m.game(quarter));
        }
        for (int h = 0; h < 3; h++) {
            int house = oneIn(30) ? any() : h;
            int what = some(3);
            same("hides(" + house + ", " + what + ")", () -> x.hides(house, what), () -> m.hides(house, what));
        }
    }

    private void stepAlone() {
        int house = some(3);
        int quarter = some(4);
        same("alone(" + house + ", " + quarter + ")",
                () -> bit(x.alone(house, quarter)), () -> bit(m.alone(house, quarter)));
    }

    private int orderOf() {
        int order = 0;
        int left = (1 << m.places) - 1;
        for (int i = 0; left != 0; i++) {
            int p = below(4);
            while ((left >> p & 1) == 0) {
                p = (p + 1) % 4;
            }
            left &= ~(1 << p);
            order |= p << 2 * i;
        }
        return order | (oneIn(2) ? 0 : any() << 2 * m.places);
    }

    private void stepNight() {
        if (oneIn(2)) {
            int quarter = some(4);
            int units = oneIn(3) ? any() * below(9) : 0;
            for (int i = 0; i < m.mills.size(); i++) {
                units |= below(m.mills.get(i).most + 1) << 4 * i;
            }
            int told = units;
            int ramp = oneIn(20) ? any() : 1 + below(3);
            int order = oneIn(10) ? any() : orderOf();
            same("night(" + quarter + ", " + told + ", " + ramp + ", " + order + ")",
                    () -> bit(x.night(quarter, told, ramp, order)), () -> bit(m.night(quarter, told, ramp, order)));
        }
        for (int i = 0; i < 4; i++) {
            if (oneIn(3)) {
                int mill = some(m.mills.size());
                int minute = m.night == null || oneIn(10) ? some(1000) : m.night.gone + below(5) - (oneIn(9) ? 3 : 0);
                same("falls(" + mill + ", " + minute + ")",
                        () -> bit(x.falls(mill, minute)), () -> bit(m.falls(mill, minute)));
            }
            int n = oneIn(12) ? some(1001) : below(4);
            same("minutes(" + n + ")", () -> x.minutes(n), () -> m.minutes(n));
            int what = some(5);
            same("ofNight(" + what + ")", () -> x.ofNight(what), () -> m.ofNight(what));
        }
    }

    private void stepWay() {
        if (oneIn(2)) {
            int mill = some(m.mills.size());
            boolean alone = oneIn(2);
            int needs = oneIn(2) ? 0 : some(8);
            same("starts(" + mill + ", " + alone + ", " + needs + ")",
                    () -> bit(x.starts(mill, alone, needs)), () -> bit(m.starts(mill, alone, needs)));
        }
        int quarter = some(4);
        same("way(" + quarter + ")", () -> x.way(quarter), () -> m.way(quarter));
        int length = m.row == null ? 0 : m.row.size();
        for (int i = -1; i <= length; i++) {
            int k = oneIn(30) ? any() : i;
            same("act(" + k + ")", () -> x.act(k), () -> m.act(k));
        }
    }

    private void stepMeter() {
        for (int i = 0; i < 5; i++) {
            int place = some(m.places);
            int quarter = some(4);
            int units = some(100);
            same("meter(" + place + ", " + quarter + ", " + units + ")",
                    () -> x.meter(place, quarter, units), () -> m.meter(place, quarter, units));
        }
    }

    private void stepBill() {
        if (oneIn(2)) {
            int n = oneIn(6) ? any() : below(6);
            same("evenings(" + n + ")", () -> x.evenings(n), () -> m.evenings(n));
        }
        for (int i = 0; i < 5; i++) {
            int place = some(m.places);
            int k = some(m.tonight + 2);
            same("bill(" + place + ", " + k + ")", () -> x.bill(place, k), () -> m.bill(place, k));
        }
    }

    private void stepCount() {
        for (int i = 0; i < 8; i++) {
            int what = oneIn(10) ? any() : i;
            same("count(" + what + ")", () -> x.count(what), () -> m.count(what));
        }
    }
}
