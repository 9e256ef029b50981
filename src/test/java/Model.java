import java.util.ArrayList;
import java.util.HashMap;
import java.util.List;
import java.util.Map;
import java.util.NoSuchElementException;

/**
 * The document once more, in its plainest form and by other ways than the class: flows by the trees
 * that span the places, all rows of units, all plans, an offer read by a machine of states.
 */
final class Model {
    static final class MillOf {
        int place, kind, house, most, cost, x, y, z, r, needs;
        boolean alone;
        int[] comes = new int[4];
        String offer;

        boolean switched() {
            return kind < 2;
        }
    }

    static final class SheetOf {
        int sort;
        int[] row;
    }

    static final class BestOf {
        int n, places, mills;
        int[] on = new int[4], least = new int[4];
        int[][] units = new int[4][], price = new int[4][], loads = new int[4][];
        long[] pay, coin, whole;
        long earn;
    }

    static final class NightOf {
        int speed = 50000, gone, cutMany, places, mills, ramp;
        boolean dark;
        int[] loads, make, order, most;
        Map<Integer, Integer> falls = new HashMap<>();
    }

    int places;
    final List<int[]> lines = new ArrayList<>();
    final List<MillOf> mills = new ArrayList<>();
    final List<SheetOf> sheets = new ArrayList<>();
    final List<int[]> meters = new ArrayList<>();
    final int[][] loads = new int[4][4];
    String tape = "";
    int faultPlace = -1, slack, wholes = 100, tonight;
    boolean fallsAsked;
    int[] kept;
    BestOf best;
    int[] hidden, gainsNow, gainsOpen;
    NightOf night;
    List<Integer> row;

    static void need(boolean there) {
        if (!there) {
            throw new NoSuchElementException();
        }
    }

    static void right(boolean so) {
        if (!so) {
            throw new IllegalArgumentException();
        }
    }

    static boolean in(int v, int a, int b) {
        return a <= v && v <= b;
    }

    MillOf mill(int m) {
        need(m >= 0 && m < mills.size());
        return mills.get(m);
    }

    void needPlace(int p) {
        need(in(p, 0, places - 1));
    }

    void needQuarter(int q) {
        need(in(q, 0, 3));
    }

    int place() {
        return places == 4 ? -1 : places++;
    }

    int line(int a, int b, int stiffness, int most) {
        needPlace(a);
        needPlace(b);
        if (lines.size() == 5 || a == b || !in(stiffness, 1, 9) || !in(most, 0, 99)) {
            return -1;
        }
        lines.add(new int[] {a, b, stiffness, most});
        return lines.size() - 1;
    }

    int mill(int place, int kind, int house, int most, int cost, int x, int y, int z, int r) {
        needPlace(place);
        need(in(kind, 0, 3));
        need(in(house, 0, 2));
        boolean ok = mills.size() < 4 && in(most, 1, 7) && in(cost, 0, 999);
        if (kind == 0) {
            ok &= in(x, 0, most) && in(y, 0, 3) && in(z, 0, 9999) && r == 0;
        } else if (kind == 1) {
            ok &= in(x, 0, most) && in(y, 0, 3) && in(z, 0, 9999) && in(r, 0, 999);
        } else if (kind == 2) {
            ok &= in(x, 0, 15) && in(y, 0, 7) && z == 0 && r == 0 && water() == null;
        } else {
            ok &= x == 0 && y == 0 && z == 0 && r == 0;
        }
        if (!ok) {
            return -1;
        }
        MillOf m = new MillOf();
        m.place = place;
        m.kind = kind;
        m.house = house;
        m.most = most;
        m.cost = cost;
        m.x = x;
        m.y = y;
        m.z = z;
        m.r = r;
        mills.add(m);
        return mills.size() - 1;
    }

    MillOf water() {
        for (MillOf m : mills) {
            if (m.kind == 2) {
                return m;
            }
        }
        return null;
    }

    int sheet(int sort, int size) {
        if (sheets.size() == 12 || !in(sort, 0, 2)) {
            return -1;
        }
        if (!in(size, -1, 12)) {
            return -2;
        }
        SheetOf s = new SheetOf();
        s.sort = sort;
        s.row = size < 0 ? null : new int[size];
        sheets.add(s);
        return sheets.size() - 1;
    }

    SheetOf sheetAt(int s) {
        need(s >= 0 && s < sheets.size());
        return sheets.get(s);
    }

    int write(int sheet, int at, int v) {
        SheetOf s = sheetAt(sheet);
        if (s.row == null) {
            return 1;
        }
        if (!in(at, 0, s.row.length - 1)) {
            return 3;
        }
        if (s.sort == 2 && !in(v, Short.MIN_VALUE, Short.MAX_VALUE)) {
            return 4;
        }
        s.row[at] = v;
        return 0;
    }

    int copy(int from, int at, int to, int on, int n) {
        SheetOf a = sheetAt(from);
        SheetOf b = sheetAt(to);
        if (a.row == null || b.row == null) {
            return 1;
        }
        if (a.sort != b.sort) {
            return 2;
        }
        if (at < 0 || on < 0 || n < 0 || (long) at + n > a.row.length || (long) on + n > b.row.length) {
            return 3;
        }
        int[] part = new int[n];
        for (int i = 0; i < n; i++) {
            part[i] = a.row[at + i];
        }
        for (int i = 0; i < n; i++) {
            b.row[on + i] = part[i];
        }
        return 0;
    }

    int day(int what, int number, int sheet, int at) {
        need(in(what, 0, 1));
        if (what == 0) {
            needPlace(number);
        } else {
            need(mill(number).kind == 3);
        }
        SheetOf s = sheetAt(sheet);
        if (s.row == null) {
            return 1;
        }
        if (at < 0 || (long) at + 4 > s.row.length) {
            return 3;
        }
        int[] part = java.util.Arrays.copyOfRange(s.row, at, at + 4);
        for (int v : part) {
            if (!in(v, 0, what == 0 ? 9 : 7)) {
                return 4;
            }
        }
        if (what == 0) {
            loads[number] = part;
        } else {
            mill(number).comes = part;
        }
        return 0;
    }

    int feed(int... five) {
        if (tape.length() + 20 > 200) {
            return -1;
        }
        StringBuilder s = new StringBuilder(tape);
        for (int v : five) {
            for (byte b : java.nio.ByteBuffer.allocate(4).putInt(v).array()) {
                s.append((char) (b & 255));
            }
        }
        tape = s.toString();
        return tape.length();
    }

    int offer(int mill, int n) {
        MillOf m = mill(mill);
        right(n >= 0 && n <= tape.length());
        String text = tape.substring(0, n);
        tape = "";
        int[] fault = Words.fault(text);
        faultPlace = fault[1];
        if (fault[0] == 0) {
            m.offer = text;
        }
        return fault[0];
    }

    int totalLoad(int q) {
        return loads[0][q] + loads[1][q] + loads[2][q] + loads[3][q];
    }

    /** What is ASKED with so many LOADS in all; -1: not OFFERED. */
    int asked(MillOf m, int unit, int q, int load) {
        int last = -1;
        for (int u = 1; u <= unit; u++) {
            last = m.offer == null ? m.cost : Words.ask(m.offer, u, q, load, m.cost, m.most);
            if (last < 0) {
                return -1;
            }
        }
        return last;
    }

    int asked(int mill, int unit, int quarter) {
        MillOf m = mill(mill);
        need(in(unit, 1, m.most));
        needQuarter(quarter);
        return asked(m, unit, quarter, totalLoad(quarter));
    }

    boolean rules(boolean falls, int slackTold, int wholesTold) {
        if (!in(slackTold, 0, 99) || !in(wholesTold, 0, 100)) {
            return false;
        }
        fallsAsked = falls;
        slack = slackTold;
        wholes = wholesTold;
        return true;
    }

    /** Of all trees of lines (without one) the sum of weights, and of what each carries of line l from a to b. */
    long[] trees(int without, int l, int a, int b) {
        long all = 0;
        long over = 0;
        for (int set = 0; set < 1 << lines.size(); set++) {
            if (Integer.bitCount(set) != Math.max(0, places - 1) || without >= 0 && (set >> without & 1) == 1) {
                continue;
            }
            long weight = 1;
            for (int i = 0; i < lines.size(); i++) {
                weight *= (set >> i & 1) == 1 ? lines.get(i)[2] : 1;
            }
            int reached = reach(set, 0, -1);
            if (places > 0 && reached != (1 << places) - 1) {
                continue;
            }
            all += weight;
            if (l >= 0 && (set >> l & 1) == 1) {
                int side = reach(set & ~(1 << l), lines.get(l)[0], l);
                boolean isA = (side >> a & 1) == 1;
                boolean isB = (side >> b & 1) == 1;
                over += isA == isB ? 0 : isA ? weight : -weight;
            }
        }
        return new long[] {over, all};
    }

    int reach(int set, int from, int not) {
        int seen = 1 << from;
        for (int round = 0; round < 5; round++) {
            for (int i = 0; i < lines.size(); i++) {
                int[] e = lines.get(i);
                if ((set >> i & 1) == 1 && i != not && ((seen >> e[0] & 1) == 1 || (seen >> e[1] & 1) == 1)) {
                    seen |= 1 << e[0] | 1 << e[1];
                }
            }
        }
        return seen;
    }

    boolean joined(int without) {
        return trees(without, -1, 0, 0)[1] > 0;
    }

    int flow(int line, int a, int b, int what) {
        need(line >= 0 && line < lines.size());
        needPlace(a);
        needPlace(b);
        need(in(what, 0, 1));
        if (!joined(-1)) {
            return -1;
        }
        long[] t = trees(-1, line, a, b);
        java.math.BigInteger g = java.math.BigInteger.valueOf(t[0]).gcd(java.math.BigInteger.valueOf(t[1]));
        return (int) (t[what] / g.longValue());
    }

    /** share[view][line][place]: over share[view][5][0] (0: parts). */
    long[][][] shares() {
        long[][][] s = new long[lines.size() + 1][6][4];
        for (int v = 0; v <= lines.size(); v++) {
            s[v][5][0] = trees(v - 1, -1, 0, 0)[1];
            for (int l = 0; l < lines.size(); l++) {
                for (int p = 1; p < places; p++) {
                    s[v][l][p] = l == v - 1 ? 0 : trees(v - 1, l, p, 0)[0];
                }
            }
        }
        return s;
    }

    /** Coin, then units; null: none. */
    int[] theLeast(int q, int on, int w, int[] hide, int silent, int more) {
        long[][][] s = shares();
        if (s[0][5][0] == 0) {
            return null;
        }
        int[] need = new int[4];
        int load = 0;
        for (int p = 0; p < places; p++) {
            need[p] = loads[p][q] + (p == more ? 1 : 0);
            load += need[p];
        }
        int[] best = {Integer.MAX_VALUE, 0, 0, 0, 0};
        int[][] asks = new int[mills.size()][8];
        for (int m = 0; m < mills.size(); m++) {
            for (int u = 1; u <= mills.get(m).most; u++) {
                asks[m][u] = asked(mills.get(m), u, q, load);
            }
        }
        go(0, new int[5], need, load, q, on, w, hide, silent, s, asks, best);
        return best[0] == Integer.MAX_VALUE ? null : best;
    }

    private void go(int m, int[] now, int[] need, int left, int q, int on, int w, int[] hide, int silent,
            long[][][] s, int[][] asks, int[] best) {
        if (m == mills.size()) {
            if (left == 0 && java.util.Arrays.compare(now, best) < 0 && carries(now, need, s)) {
                System.arraycopy(now, 0, best, 0, 5);
            }
            return;
        }
        MillOf mill = mills.get(m);
        for (int u = Math.min(7, left); u >= 0; u--) {
            if (!may(mill, u, (on >> m & 1) == 1, w, hide[mill.house], mill.house == silent, q)) {
                continue;
            }
            int coin = 0;
            boolean offered = true;
            for (int i = 1; i <= u; i++) {
                offered &= i <= mill.most && asks[m][i] >= 0;
                coin += asks[m][i];
            }
            if (!offered) {
                continue;
            }
            now[0] += coin;
            now[m + 1] = u;
            go(m + 1, now, need, left - u, q, on, w, hide, silent, s, asks, best);
            now[0] -= coin;
            now[m + 1] = 0;
        }
    }

    private boolean may(MillOf m, int u, boolean on, int w, int hide, boolean silent, int q) {
        if (silent) {
            return u == 0;
        }
        if (m.switched()) {
            return on ? u >= m.x && (u <= m.most - hide || u == m.x) : u == 0;
        }
        if (m.kind == 2) {
            return u == w;
        }
        return u == 0 || u <= m.most - hide && u <= m.comes[q];
    }

    private boolean carries(int[] now, int[] need, long[][][] s) {
        int[] put = new int[4];
        for (int m = 0; m < mills.size(); m++) {
            put[mills.get(m).place] += now[m + 1];
        }
        for (int p = 0; p < 4; p++) {
            put[p] -= need[p];
        }
        for (int v = 0; v < (fallsAsked ? s.length : 1); v++) {
            for (int l = 0; l < lines.size() && s[v][5][0] > 0; l++) {
                long flow = 0;
                for (int p = 0; p < 4; p++) {
                    flow += s[v][l][p] * put[p];
                }
                long most = lines.get(l)[3] + (v == 0 ? 0 : slack);
                if (flow > most * s[v][5][0] || -flow > most * s[v][5][0]) {
                    return false;
                }
            }
        }
        return true;
    }

    int least(int quarter, int on, int w) {
        needQuarter(quarter);
        right(w >= 0);
        int most = water() == null ? 0 : water().most;
        int[] found = w > most ? null : theLeast(quarter, on, w, new int[3], -1, -1);
        if (found == null) {
            return -1;
        }
        kept = java.util.Arrays.copyOfRange(found, 1, 1 + mills.size());
        return found[0];
    }

    int units(int mill) {
        mill(mill);
        return kept == null || mill >= kept.length ? -1 : kept[mill];
    }

    int changeCoin(int before, int on, int q) {
        int coin = 0;
        for (int m = 0; m < mills.size(); m++) {
            MillOf mill = mills.get(m);
            boolean was = (before >> m & 1) == 1;
            boolean is = (on >> m & 1) == 1;
            if (!mill.switched()) {
                if (is) {
                    return -1;
                }
                continue;
            }
            if (is && !was) {
                if (q < mill.y) {
                    return -1;
                }
                coin += mill.z;
            }
            coin += !is && mill.kind == 1 ? mill.r : 0;
        }
        return coin;
    }

    /** The best row from a quarter on: coin, then on and w of each; null: none. */
    int[] from(int q, int n, int before, int lake, int[][][] leasts, Map<Integer, int[]> known) {
        int[] best = null;
        int key = q << 8 | before << 4 | lake;
        if (known.containsKey(key)) {
            return known.get(key);
        }
        if (q == n) {
            return new int[1];
        }
        int stream = water() == null ? 0 : water().y;
        int most = water() == null ? 0 : Math.min(water().most, lake);
        for (int on = (1 << mills.size()) - 1; on >= 0; on--) {
            int change = changeCoin(before, on, q);
            for (int w = most; w >= 0 && change >= 0; w--) {
                int least = leasts[q][on][w];
                if (least < 0) {
                    continue;
                }
                int[] rest = from(q + 1, n, on, Math.min(15, lake - w + stream), leasts, known);
                if (rest == null) {
                    continue;
                }
                int[] all = new int[rest.length + 2];
                all[0] = rest[0] + least + change;
                all[1] = on;
                all[2] = w;
                System.arraycopy(rest, 1, all, 3, rest.length - 1);
                if (best == null || java.util.Arrays.compare(all, best) < 0) {
                    best = all;
                }
            }
        }
        known.put(key, best);
        return best;
    }

    int plan(int n, int on) {
        right(in(n, 1, 4));
        int switched = 0;
        for (int m = 0; m < mills.size(); m++) {
            switched |= mills.get(m).switched() ? 1 << m : 0;
        }
        int most = water() == null ? 0 : water().most;
        int[][][] leasts = new int[n][16][8];
        for (int q = 0; q < n; q++) {
            for (int o = 0; o < 16; o++) {
                for (int w = 0; w <= most; w++) {
                    int[] l = (o & ~switched) != 0 ? null : theLeast(q, o, w, new int[3], -1, -1);
                    leasts[q][o][w] = l == null ? -1 : l[0];
                }
            }
        }
        int lake = water() == null ? 0 : water().x;
        int[] found = from(0, n, on & switched, lake, leasts, new HashMap<>());
        if (found == null) {
            return -1;
        }
        keep(found, n, on & switched);
        return found[0];
    }

    private void keep(int[] found, int n, int onAtFirst) {
        BestOf b = new BestOf();
        b.n = n;
        b.places = places;
        b.mills = mills.size();
        b.pay = new long[4];
        b.coin = new long[4];
        b.whole = new long[4];
        int before = onAtFirst;
        for (int q = 0; q < n; q++) {
            int on = found[1 + 2 * q];
            int w = found[2 + 2 * q];
            int[] least = theLeast(q, on, w, new int[3], -1, -1);
            b.on[q] = on;
            b.least[q] = least[0];
            b.units[q] = java.util.Arrays.copyOfRange(least, 1, 5);
            b.price[q] = new int[4];
            b.loads[q] = new int[4];
            for (int p = 0; p < places; p++) {
                int[] more = theLeast(q, on, w, new int[3], -1, p);
                b.price[q][p] = more == null ? 55555555 : more[0] - least[0];
                b.loads[q][p] = loads[p][q];
                b.earn += loads[p][q] * (more == null ? 9999L : b.price[q][p]);
            }
            for (int m = 0; m < mills.size(); m++) {
                MillOf mill = mills.get(m);
                int price = b.price[q][mill.place];
                b.pay[m] += least[m + 1] * (price == 55555555 ? 9999L : price);
                for (int u = 1; u <= least[m + 1]; u++) {
                    b.coin[m] += asked(mill, u, q, totalLoad(q));
                }
                boolean is = (on >> m & 1) == 1;
                b.coin[m] += is && (before >> m & 1) == 0 ? mill.z : 0;
                b.coin[m] += mill.kind == 1 && !is ? mill.r : 0;
            }
            before = on;
        }
        for (int m = 0; m < mills.size(); m++) {
            b.earn -= b.pay[m];
            b.whole[m] = b.coin[m] > b.pay[m] ? (b.coin[m] - b.pay[m]) * wholes / 100 : 0;
        }
        best = b;
    }

    int planned(int quarter, int what) {
        needQuarter(quarter);
        if (what != 0 && what != 1) {
            need(what >= 4);
            mill(what - 4);
        }
        if (best == null || quarter >= best.n) {
            return -1;
        }
        if (what == 0) {
            return best.on[quarter];
        }
        return what == 1 ? best.least[quarter] : what - 4 < best.mills ? best.units[quarter][what - 4] : 0;
    }

    int price(int place, int quarter) {
        needPlace(place);
        needQuarter(quarter);
        if (best == null || quarter >= best.n || place >= best.places) {
            return -1;
        }
        return best.price[quarter][place] == 55555555 ? -1 : best.price[quarter][place];
    }

    int pays(int mill, int what) {
        if (mill == -1) {
            need(what == 0);
            return best == null ? 0 : (int) best.earn;
        }
        mill(mill);
        need(in(what, 0, 2));
        if (best == null || mill >= best.mills) {
            return 0;
        }
        return (int) (what == 0 ? best.pay : what == 1 ? best.coin : best.whole)[mill];
    }

    int[] gains(int q, int[] hide) {
        int[] g = new int[3];
        int[] least = theLeast(q, 15, 0, hide, -1, -1);
        if (least == null) {
            return new int[] {-1000000, -1000000, -1000000};
        }
        int[] prices = new int[4];
        for (int p = 0; p < places; p++) {
            int[] more = theLeast(q, 15, 0, hide, -1, p);
            prices[p] = more == null ? 9999 : more[0] - least[0];
        }
        for (int m = 0; m < mills.size(); m++) {
            MillOf mill = mills.get(m);
            g[mill.house] += least[m + 1] * (prices[mill.place] - mill.cost);
        }
        return g;
    }

    int game(int quarter) {
        needQuarter(quarter);
        int[] now = new int[3];
        List<String> seen = new ArrayList<>();
        seen.add(java.util.Arrays.toString(now));
        int answer = 0;
        for (int round = 1; answer == 0; round++) {
            String ahead = java.util.Arrays.toString(now);
            for (int h = 0; h < 3; h++) {
                int[] trial = now.clone();
                int bestGain = Integer.MIN_VALUE;
                for (int v = 0; v < 3; v++) {
                    trial[h] = v;
                    int gain = gains(quarter, trial)[h];
                    if (gain > bestGain) {
                        bestGain = gain;
                        now[h] = v;
                    }
                }
            }
            String behind = java.util.Arrays.toString(now);
            if (behind.equals(ahead)) {
                answer = round;
            } else if (seen.contains(behind)) {
                answer = -1 - round;
            }
            seen.add(behind);
        }
        hidden = now;
        gainsNow = gains(quarter, now);
        gainsOpen = gains(quarter, new int[3]);
        return answer;
    }

    int hides(int house, int what) {
        need(in(house, 0, 2));
        need(in(what, 0, 2));
        need(hidden != null);
        return (what == 0 ? hidden : what == 1 ? gainsNow : gainsOpen)[house];
    }

    boolean alone(int house, int quarter) {
        need(in(house, 0, 2));
        needQuarter(quarter);
        int most = water() == null ? 0 : water().most;
        for (int w = 0; w <= most; w++) {
            if (theLeast(quarter, 15, w, new int[3], house, -1) != null) {
                return false;
            }
        }
        return true;
    }

    boolean night(int quarter, int units, int ramp, int order) {
        needQuarter(quarter);
        NightOf n = new NightOf();
        n.places = places;
        n.mills = mills.size();
        n.ramp = ramp;
        n.loads = new int[4];
        n.order = new int[4];
        n.make = new int[4];
        boolean[] named = new boolean[4];
        for (int p = 0; p < places; p++) {
            int o = order / (1 << 2 * p) & 3;
            o = (order >>> 2 * p) & 3;
            if (o >= places || named[o]) {
                return false;
            }
            named[o] = true;
            n.order[p] = o;
            n.loads[p] = loads[p][quarter];
        }
        for (int m = 0; m < mills.size(); m++) {
            n.make[m] = (units >>> 4 * m) & 15;
            if (n.make[m] > mills.get(m).most) {
                return false;
            }
        }
        if (!in(ramp, 1, 3)) {
            return false;
        }
        night = n;
        return true;
    }

    boolean falls(int mill, int minute) {
        mill(mill);
        if (night == null || night.falls.containsKey(mill) || minute < night.gone || minute > 999
                || mill >= night.mills) {
            return false;
        }
        night.falls.put(mill, minute);
        return true;
    }

    int minutes(int n) {
        if (night == null) {
            return -1;
        }
        right(in(n, 0, 1000) && n + night.gone <= 1000);
        for (int i = 0; i < n; i++) {
            minute();
            night.gone++;
        }
        return night.speed;
    }

    private void minute() {
        NightOf n = night;
        if (n.dark) {
            return;
        }
        for (int m : n.falls.keySet()) {
            if (n.falls.get(m) == n.gone) {
                n.make[m] = 0;
            }
        }
        if (n.speed < 49900) {
            for (int m = 0; m < n.mills; m++) {
                boolean fallen = n.falls.containsKey(m) && n.falls.get(m) <= n.gone;
                for (int i = 0; i < n.ramp && !fallen && n.make[m] > 0 && n.make[m] < mills.get(m).most; i++) {
                    n.make[m]++;
                }
            }
        }
        int want = 0;
        for (int p = 0; p < n.places; p++) {
            want += n.loads[p];
        }
        for (int i = 0; i < n.cutMany; i++) {
            want -= n.loads[n.order[i]];
        }
        n.speed -= 50 * (want - ofNightMade());
        n.speed = n.speed > 50000 ? 50000 : n.speed;
        if (n.speed < 49000 && n.cutMany < n.places) {
            n.cutMany++;
        }
        n.dark = n.speed < 47500;
    }

    private int ofNightMade() {
        int made = 0;
        for (int m = 0; m < night.mills; m++) {
            made += night.make[m];
        }
        return made;
    }

    int ofNight(int what) {
        need(night != null);
        need(in(what, 0, 4));
        int cut = 0;
        for (int i = 0; i < night.cutMany; i++) {
            cut += 1 << night.order[i];
        }
        int[] all = {night.speed, night.gone, cut, night.dark ? 1 : 0, ofNightMade()};
        return all[what];
    }

    boolean starts(int mill, boolean alone, int needs) {
        MillOf m = mill(mill);
        if (!in(needs, 0, 7)) {
            return false;
        }
        m.alone = alone;
        m.needs = needs;
        return true;
    }

    /** The rows of so many acts, the first one to each state; one act more each time. */
    int way(int quarter) {
        needQuarter(quarter);
        Map<Integer, List<Integer>> rows = new HashMap<>();
        rows.put(0, new ArrayList<>());
        for (int length = 0; length <= 13; length++) {
            List<Integer> bestRow = null;
            for (Map.Entry<Integer, List<Integer>> e : rows.entrySet()) {
                int all = (1 << places) - 1;
                boolean there = (e.getKey() & 15) == all && (e.getKey() >> 8) == all;
                if (there && (bestRow == null || before(e.getValue(), bestRow))) {
                    bestRow = e.getValue();
                }
            }
            if (bestRow != null) {
                row = bestRow;
                return row.size();
            }
            Map<Integer, List<Integer>> next = new HashMap<>();
            for (Map.Entry<Integer, List<Integer>> e : rows.entrySet()) {
                for (int act = 0; act <= 12; act++) {
                    int to = behind(e.getKey(), act, quarter);
                    if (to < 0) {
                        continue;
                    }
                    List<Integer> r = new ArrayList<>(e.getValue());
                    r.add(act);
                    if (!next.containsKey(to) || before(r, next.get(to))) {
                        next.put(to, r);
                    }
                }
            }
            rows = next;
        }
        return -1;
    }

    private static boolean before(List<Integer> a, List<Integer> b) {
        for (int i = 0; i < a.size(); i++) {
            if (!a.get(i).equals(b.get(i))) {
                return a.get(i) < b.get(i);
            }
        }
        return false;
    }

    private int behind(int state, int act, int q) {
        int can = 0;
        int served = 0;
        for (int m = 0; m < mills.size(); m++) {
            MillOf mill = mills.get(m);
            if ((state >> 4 + m & 1) == 1) {
                can += mill.kind == 3 ? Math.min(mill.most, mill.comes[q]) : mill.most;
            }
        }
        for (int p = 0; p < places; p++) {
            served += (state >> 8 + p & 1) * loads[p][q];
        }
        if (act <= 3) {
            if (act >= mills.size() || (state >> 4 + act & 1) == 1) {
                return -1;
            }
            MillOf mill = mills.get(act);
            boolean ok = mill.alone || (state >> mill.place & 1) == 1 && can - served >= mill.needs;
            return ok ? state | 1 << 4 + act | 1 << mill.place : -1;
        }
        if (act <= 8) {
            if (act - 4 >= lines.size()) {
                return -1;
            }
            int[] e = lines.get(act - 4);
            boolean one = (state >> e[0] & 1) + (state >> e[1] & 1) == 1;
            return one ? state | 1 << e[0] | 1 << e[1] : -1;
        }
        int p = act - 9;
        boolean ok = p < places && (state >> p & 1) == 1 && (state >> 8 + p & 1) == 0
                && can >= served + loads[p][q];
        return ok ? state | 1 << 8 + p : -1;
    }

    int act(int i) {
        need(row != null && i >= 0 && i < row.size());
        return row.get(i);
    }

    int evenings(int n) {
        right(n >= 0 && (long) tonight + n <= 99);
        tonight += n;
        return tonight;
    }

    int meter(int place, int quarter, int units) {
        needPlace(place);
        needQuarter(quarter);
        if (meters.size() == 60 || !in(units, 0, 99)) {
            return -1;
        }
        meters.add(new int[] {place, quarter, units, tonight});
        return meters.size();
    }

    int bill(int place, int k) {
        needPlace(place);
        right(in(k, 0, tonight));
        if (best == null || place >= best.places) {
            return 0;
        }
        int sum = 0;
        for (int q = 0; q < best.n; q++) {
            int units = best.loads[q][place];
            for (int[] m : meters) {
                units = m[0] == place && m[1] == q && m[3] <= k ? m[2] : units;
            }
            sum += units * (best.price[q][place] == 55555555 ? 9999 : best.price[q][place]);
        }
        return sum;
    }

    int count(int what) {
        need(in(what, 0, 7));
        int[] all = {tonight, places, lines.size(), mills.size(), sheets.size(), meters.size(),
            best == null ? 0 : best.n, tape.length()};
        return all[what];
    }
}
