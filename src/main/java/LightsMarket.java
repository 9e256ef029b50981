import java.util.Arrays;
import java.util.NoSuchElementException;

/** The market that keeps the lights; what each call answers is told in ../shared/DOC.md. */
public final class LightsMarket {
    public static final int NONE = -1;

    private static final int PLACES = 4;
    private static final int LINES = 5;
    private static final int MILLS = 4;
    private static final int HOUSES = 3;
    private static final int QUARTERS = 4;
    private static final int METERS = 60;
    private static final int LAST_EVENING = 99;
    private static final int ALL_ON = 15;
    private static final int NOTHING_HIDDEN = 0;
    /** What stands in for a PRICE that can't be met; -1 may be a true PRICE, so NONE can't. */
    private static final int NO_PRICE = -1000000000;
    private static final int DEAREST = 9999;

    private final Land land;
    private final Sheets sheets;
    private final Reader reader;
    private final Dispatch dispatch;
    private final Best best;
    private final Planner planner;
    private final Game contest;
    private final Night dark;
    private final Way road;
    private final int[] keptUnits;
    private int keptMills;
    /** Each METER: place, quarter, units, evening. */
    private final int[][] told;
    private int meters;
    private int tonight;

    public LightsMarket() {
        land = new Land();
        sheets = new Sheets();
        reader = new Reader();
        dispatch = new Dispatch(land);
        best = new Best();
        planner = new Planner(land, dispatch, best);
        contest = new Game(land, dispatch);
        dark = new Night(land);
        road = new Way(land);
        keptUnits = new int[MILLS];
        told = new int[METERS][4];
    }

    private static boolean within(int v, int least, int most) {
        return v >= least && v <= most;
    }

    private boolean hasPlace(int place) {
        return place >= 0 && place < land.places;
    }

    private boolean hasMill(int mill) {
        return mill >= 0 && mill < land.mills;
    }

    private static boolean hasQuarter(int quarter) {
        return quarter >= 0 && quarter < QUARTERS;
    }

    private static boolean hasHouse(int house) {
        return house >= 0 && house < HOUSES;
    }

    public int place() {
        return land.addPlace();
    }

    public int line(int a, int b, int stiffness, int most) throws NoSuchElementException {
        if (!hasPlace(a) || !hasPlace(b)) {
            throw new NoSuchElementException();
        }
        if (a == b || !within(stiffness, 1, 9) || !within(most, 0, 99)) {
            return NONE;
        }
        return land.addLine(a, b, stiffness, most);
    }

    public int mill(int place, int kind, int house, int most, int cost, int x, int y, int z, int r)
            throws NoSuchElementException {
        if (!hasPlace(place) || !hasHouse(house) || !within(kind, Mill.SLOW, Mill.WIND)) {
            throw new NoSuchElementException();
        }
        if (!within(most, 1, 7) || !within(cost, 0, 999) || land.mills >= MILLS) {
            return NONE;
        }
        if (!Mill.asTold(kind, most, x, y, z, r) || kind == Mill.WATER && land.water() != NONE) {
            return NONE;
        }
        Mill mill = land.millAt(land.mills);
        mill.stand(place, kind, house, most, cost);
        mill.setWays(x, y, z, r);
        land.mills++;
        return land.mills - 1;
    }

    public int sheet(int sort, int size) {
        return sheets.add(sort, size);
    }

    public int write(int sheet, int at, int v) throws NoSuchElementException {
        if (!sheets.has(sheet)) {
            throw new NoSuchElementException();
        }
        return sheets.put(sheet, at, v);
    }

    public int copy(int from, int at, int to, int on, int n) throws NoSuchElementException {
        if (!sheets.has(from) || !sheets.has(to)) {
            throw new NoSuchElementException();
        }
        return sheets.lay(from, at, to, on, n);
    }

    public int day(int what, int number, int sheet, int at) throws NoSuchElementException {
        if (what != 0 && what != 1 || !sheets.has(sheet)) {
            throw new NoSuchElementException();
        }
        if (what == 0) {
            if (!hasPlace(number)) {
                throw new NoSuchElementException();
            }
            return sheets.readDay(sheet, at, 9, land.loads[number]);
        }
        if (!hasMill(number) || land.millAt(number).kind != Mill.WIND) {
            throw new NoSuchElementException();
        }
        return sheets.readDay(sheet, at, 7, land.millAt(number).comes);
    }

    public int feed(int a, int b, int c, int d, int e) {
        return reader.take(a, b, c, d, e);
    }

    public int offer(int mill, int n) throws NoSuchElementException, IllegalArgumentException {
        if (!hasMill(mill)) {
            throw new NoSuchElementException();
        }
        if (n < 0 || n > reader.bytes) {
            throw new IllegalArgumentException();
        }
        int fault = reader.read(n);
        if (fault == 0) {
            land.millAt(mill).offer.learn(reader.code, reader.codes);
        }
        return fault;
    }

    public int fault() {
        return reader.faultPlace;
    }

    public int asked(int mill, int unit, int quarter) throws NoSuchElementException {
        if (!hasMill(mill) || !hasQuarter(quarter)) {
            throw new NoSuchElementException();
        }
        if (!within(unit, 1, land.millAt(mill).most)) {
            throw new NoSuchElementException();
        }
        dispatch.open(quarter, NONE);
        return dispatch.askedOf(mill, unit);
    }

    public boolean rules(boolean falls, int slack, int wholes) {
        if (!within(slack, 0, 99) || !within(wholes, 0, 100)) {
            return false;
        }
        land.fallsAsked = falls;
        land.slack = slack;
        land.wholes = wholes;
        return true;
    }

    public int flow(int line, int a, int b, int what) throws NoSuchElementException {
        if (line < 0 || line >= land.lines || !hasPlace(a) || !hasPlace(b)) {
            throw new NoSuchElementException();
        }
        if (what != 0 && what != 1) {
            throw new NoSuchElementException();
        }
        int whole = land.wholeOf(0);
        if (whole == 0) {
            return NONE;
        }
        int part = land.shareOf(0, line, a) - land.shareOf(0, line, b);
        int common = Land.commonPart(part, whole);
        if (common == 0) {
            return NONE;
        }
        return what == 0 ? part / common : whole / common;
    }

    public int least(int quarter, int on, int w) throws NoSuchElementException, IllegalArgumentException {
        if (!hasQuarter(quarter)) {
            throw new NoSuchElementException();
        }
        if (w < 0) {
            throw new IllegalArgumentException();
        }
        if (w > land.waterMost()) {
            return NONE;
        }
        dispatch.open(quarter, NONE);
        int coin = dispatch.search(on, w, NOTHING_HIDDEN, NONE);
        if (coin != NONE) {
            keptMills = land.mills;
            for (int m = 0; m < MILLS; m++) {
                keptUnits[m] = dispatch.units[m];
            }
        }
        return coin;
    }

    public int units(int mill) throws NoSuchElementException {
        if (!hasMill(mill)) {
            throw new NoSuchElementException();
        }
        return mill < keptMills ? keptUnits[mill] : NONE;
    }

    public int plan(int n, int on) throws IllegalArgumentException {
        if (!within(n, 1, QUARTERS)) {
            throw new IllegalArgumentException();
        }
        return planner.seek(n, on);
    }

    public int planned(int quarter, int what) throws NoSuchElementException {
        boolean known = what == 0 || what == 1 || what >= 4 && hasMill(what - 4);
        if (!hasQuarter(quarter) || !known) {
            throw new NoSuchElementException();
        }
        if (quarter >= best.quarters) {
            return NONE;
        }
        if (what == 0) {
            return best.on[quarter];
        }
        return what == 1 ? best.coin[quarter] : best.units[quarter][what - 4];
    }

    public int price(int place, int quarter) throws NoSuchElementException {
        if (!hasPlace(place) || !hasQuarter(quarter)) {
            throw new NoSuchElementException();
        }
        if (quarter >= best.quarters || place >= best.places) {
            return NONE;
        }
        int price = best.prices[place][quarter];
        return price == NO_PRICE ? NONE : price;
    }

    public int pays(int mill, int what) throws NoSuchElementException {
        if (mill == NONE) {
            if (what != 0) {
                throw new NoSuchElementException();
            }
            return best.earned;
        }
        if (!hasMill(mill) || !within(what, 0, 2)) {
            throw new NoSuchElementException();
        }
        if (what == 0) {
            return best.pay[mill];
        }
        return what == 1 ? best.spent[mill] : best.whole[mill];
    }

    public int game(int quarter) throws NoSuchElementException {
        if (!hasQuarter(quarter)) {
            throw new NoSuchElementException();
        }
        return contest.hold(quarter);
    }

    public int hides(int house, int what) throws NoSuchElementException {
        if (!hasHouse(house) || !within(what, 0, 2) || !contest.held) {
            throw new NoSuchElementException();
        }
        if (what == 0) {
            return Game.hiddenBy(contest.state, house);
        }
        return contest.gainOf(what == 1 ? contest.state : NOTHING_HIDDEN, house);
    }

    public boolean alone(int house, int quarter) throws NoSuchElementException {
        if (!hasHouse(house) || !hasQuarter(quarter)) {
            throw new NoSuchElementException();
        }
        dispatch.open(quarter, NONE);
        int most = land.waterMost();
        for (int w = 0; w <= most; w++) {
            if (dispatch.search(ALL_ON, w, NOTHING_HIDDEN, house) != NONE) {
                return false;
            }
        }
        return true;
    }

    public boolean night(int quarter, int units, int ramp, int order) throws NoSuchElementException {
        if (!hasQuarter(quarter)) {
            throw new NoSuchElementException();
        }
        return dark.begin(quarter, units, ramp, order);
    }

    public boolean falls(int mill, int minute) throws NoSuchElementException {
        if (!hasMill(mill)) {
            throw new NoSuchElementException();
        }
        return dark.tellFall(mill, minute);
    }

    public int minutes(int n) throws IllegalArgumentException {
        if (!dark.begun) {
            return NONE;
        }
        if (!within(n, 0, Night.LONGEST) || n > Night.LONGEST - dark.gone) {
            throw new IllegalArgumentException();
        }
        return dark.pass(n);
    }

    public int ofNight(int what) throws NoSuchElementException {
        if (!dark.begun || !within(what, 0, 4)) {
            throw new NoSuchElementException();
        }
        switch (what) {
            case 0:
                return dark.speed;
            case 1:
                return dark.gone;
            case 2:
                return dark.cut;
            case 3:
                return dark.isDark ? 1 : 0;
            default:
                return dark.madeNow();
        }
    }

    public boolean starts(int mill, boolean alone, int needs) throws NoSuchElementException {
        if (!hasMill(mill)) {
            throw new NoSuchElementException();
        }
        if (!within(needs, 0, 7)) {
            return false;
        }
        land.millAt(mill).startsAlone = alone;
        land.millAt(mill).needs = needs;
        return true;
    }

    public int way(int quarter) throws NoSuchElementException {
        if (!hasQuarter(quarter)) {
            throw new NoSuchElementException();
        }
        return road.seek(quarter);
    }

    public int act(int i) throws NoSuchElementException {
        if (i < 0 || i >= road.length) {
            throw new NoSuchElementException();
        }
        return road.row[i];
    }

    public int evenings(int n) throws IllegalArgumentException {
        if (n < 0 || n > LAST_EVENING - tonight) {
            throw new IllegalArgumentException();
        }
        tonight += n;
        return tonight;
    }

    public int meter(int place, int quarter, int units) throws NoSuchElementException {
        if (!hasPlace(place) || !hasQuarter(quarter)) {
            throw new NoSuchElementException();
        }
        if (meters >= METERS || !within(units, 0, 99)) {
            return NONE;
        }
        int[] row = told[meters];
        row[0] = place;
        row[1] = quarter;
        row[2] = units;
        row[3] = tonight;
        meters++;
        return meters;
    }

    public int bill(int place, int k) throws NoSuchElementException, IllegalArgumentException {
        if (!hasPlace(place)) {
            throw new NoSuchElementException();
        }
        if (!within(k, 0, tonight)) {
            throw new IllegalArgumentException();
        }
        if (place >= best.places) {
            return 0;
        }
        int sum = 0;
        for (int q = 0; q < best.quarters; q++) {
            sum += best.reckoned(place, q) * unitsKnown(place, q, k);
        }
        return sum;
    }

    /** What the METER told last by EVENING k, else the LOAD as it was planned for. */
    private int unitsKnown(int place, int quarter, int k) {
        int units = best.loads[place][quarter];
        for (int i = 0; i < meters; i++) {
            int[] row = told[i];
            if (row[0] == place && row[1] == quarter && row[3] <= k) {
                units = row[2];
            }
        }
        return units;
    }

    public int count(int what) throws NoSuchElementException {
        switch (what) {
            case 0:
                return tonight;
            case 1:
                return land.places;
            case 2:
                return land.lines;
            case 3:
                return land.mills;
            case 4:
                return sheets.many;
            case 5:
                return meters;
            case 6:
                return best.quarters;
            case 7:
                return reader.bytes;
            default:
                throw new NoSuchElementException();
        }
    }

    /** A mill, and what was told of it. */
    private static final class Mill {
        static final int SLOW = 0;
        static final int READY = 1;
        static final int WATER = 2;
        static final int WIND = 3;

        int place;
        int kind;
        int house;
        int most;
        int cost;
        int least;
        int toStart;
        int startCoin;
        int waitCoin;
        int lake;
        int stream;
        boolean startsAlone;
        int needs;
        final int[] comes = new int[QUARTERS];
        final Offer offer = new Offer();

        static boolean asTold(int kind, int most, int x, int y, int z, int r) {
            if (kind == WATER) {
                return within(x, 0, 15) && within(y, 0, 7) && z == 0 && r == 0;
            }
            if (kind == WIND) {
                return x == 0 && y == 0 && z == 0 && r == 0;
            }
            int mostWaiting = kind == READY ? 999 : 0;
            return within(x, 0, most) && within(y, 0, 3) && within(z, 0, 9999) && within(r, 0, mostWaiting);
        }

        void stand(int atPlace, int ofKind, int ofHouse, int mostUnits, int trueCost) {
            place = atPlace;
            kind = ofKind;
            house = ofHouse;
            most = mostUnits;
            cost = trueCost;
        }

        void setWays(int x, int y, int z, int r) {
            if (kind == WATER) {
                lake = x;
                stream = y;
            } else {
                least = x;
                toStart = y;
                startCoin = z;
                waitCoin = r;
            }
        }

        /** Whether it can be ON or not; the others are always ON. */
        boolean switched() {
            return kind == SLOW || kind == READY;
        }

        /** What it could make at most in a QUARTER. */
        int reach(int quarter) {
            if (kind != WIND) {
                return most;
            }
            return hasQuarter(quarter) ? Math.min(most, comes[quarter]) : 0;
        }
    }

    /** An OFFER as a row of codes, each operation behind what it works on. */
    private static final class Offer {
        static final int UNIT = -1;
        static final int QUARTER = -2;
        static final int LOAD = -3;
        static final int TRUE = -4;
        static final int MOST = -5;
        static final int PLUS = -6;
        static final int MINUS = -7;
        static final int TIMES = -8;
        static final int OVER = -9;
        static final int BELOW = -10;
        static final int SAME = -11;
        static final int NOT = -12;
        static final int AND = -13;
        static final int OR = -14;
        static final int PRICE = -15;
        static final int WHEN = -16;
        static final int UNKNOWN = -17;
        private static final int DEEPEST = 48;

        private final int[] code = new int[Reader.LONGEST];
        private final int[] values = new int[5];
        private final int[] stack = new int[DEEPEST];
        private int codes;
        private int deep;

        void learn(int[] row, int many) {
            codes = 0;
            for (int i = 0; i < many && i < code.length && i < row.length; i++) {
                code[i] = row[i];
                codes++;
            }
        }

        /** The VALUES for the next asks; unit is told by the ask itself. */
        void set(int quarter, int load, int cost, int most) {
            values[1] = quarter;
            values[2] = load;
            values[3] = cost;
            values[4] = most;
        }

        /** What is ASKED of a unit; NONE: some 'when' is 0. */
        int ask(int unit) {
            if (codes == 0) {
                return values[3];
            }
            values[0] = unit;
            deep = 0;
            int sum = 0;
            for (int i = 0; i < codes && i < code.length; i++) {
                int c = code[i];
                if (c == WHEN) {
                    if (pull() == 0) {
                        return NONE;
                    }
                } else if (c == PRICE) {
                    sum += pull();
                } else {
                    step(c);
                }
            }
            return Math.max(0, Math.min(DEAREST, sum));
        }

        private void step(int c) {
            if (c >= 0) {
                push(c);
            } else if (c >= MOST) {
                push(values[-1 - c]);
            } else if (c == NOT) {
                push(pull() == 0 ? 1 : 0);
            } else {
                int right = pull();
                int left = pull();
                push(joined(c, left, right));
            }
        }

        private static int joined(int c, int left, int right) {
            switch (c) {
                case PLUS:
                    return left + right;
                case MINUS:
                    return left - right;
                case TIMES:
                    return left * right;
                case OVER:
                    return right == 0 ? 0 : left / right;
                case BELOW:
                    return left < right ? 1 : 0;
                case SAME:
                    return left == right ? 1 : 0;
                case AND:
                    return left != 0 && right != 0 ? 1 : 0;
                default:
                    return left != 0 || right != 0 ? 1 : 0;
            }
        }

        private void push(int v) {
            if (deep >= 0 && deep < stack.length) {
                stack[deep] = v;
                deep++;
            }
        }

        private int pull() {
            if (deep <= 0 || deep > stack.length) {
                return 0;
            }
            deep--;
            return stack[deep];
        }
    }

    /** The tape, and the reading of a text on it into codes. */
    private static final class Reader {
        static final int LONGEST = 200;
        private static final int MOST_CLAUSES = 8;
        private static final int DEEPEST = 6;
        private static final int MOST_NOTS = 6;
        private static final int MOST_DIGITS = 5;

        private static final int END = 0;
        private static final int NUMBER = 1;
        private static final int WORD = 2;
        private static final int SIGN = 3;
        private static final int STRANGE = 4;

        private static final int CANT_STAND = 1;
        private static final int TOO_MUCH = 2;
        private static final int NO_VALUE = 3;

        final int[] code = new int[LONGEST];
        int codes;
        int bytes;
        int faultPlace = NONE;
        private final int[] tape = new int[LONGEST];
        private int fault;
        private int length;
        private int next;
        /** The token that is looked at: its first byte, its kind, its number, word or sign. */
        private int start;
        private int kind;
        private int value;

        int take(int a, int b, int c, int d, int e) {
            if (bytes > LONGEST - 20) {
                return NONE;
            }
            takeNumber(a);
            takeNumber(b);
            takeNumber(c);
            takeNumber(d);
            takeNumber(e);
            return bytes;
        }

        private void takeNumber(int v) {
            for (int shift = 24; shift >= 0 && bytes < LONGEST; shift -= 8) {
                tape[bytes] = v >>> shift & 255;
                bytes++;
            }
        }

        /** Reads the first n bytes as an OFFER; the FAULT, or 0. */
        int read(int n) {
            length = n;
            next = 0;
            fault = 0;
            faultPlace = NONE;
            codes = 0;
            bytes = 0;
            advance();
            for (int i = 0; i <= MOST_CLAUSES && fault == 0 && (i == 0 || kind != END); i++) {
                clause(i);
            }
            return fault;
        }

        private void clause(int number) {
            int head = kind == WORD ? value : Offer.UNKNOWN;
            if (head != Offer.PRICE && head != Offer.WHEN) {
                fail(CANT_STAND);
            } else if (number >= MOST_CLAUSES) {
                fail(TOO_MUCH);
            } else {
                advance();
                expression(0);
                pass(';');
                emit(head);
            }
        }

        private void expression(int depth) {
            if (depth >= DEEPEST) {
                boolean can = kind == NUMBER || kind == WORD || isSign('(');
                fail(can ? TOO_MUCH : CANT_STAND);
                return;
            }
            conjunction(depth);
            for (int i = 0; i < LONGEST && fault == 0 && isWord(Offer.OR); i++) {
                advance();
                conjunction(depth);
                emit(Offer.OR);
            }
        }

        private void conjunction(int depth) {
            negation(depth);
            for (int i = 0; i < LONGEST && fault == 0 && isWord(Offer.AND); i++) {
                advance();
                negation(depth);
                emit(Offer.AND);
            }
        }

        private void negation(int depth) {
            int nots = 0;
            for (int i = 0; i <= MOST_NOTS && fault == 0 && isWord(Offer.NOT); i++) {
                if (nots == MOST_NOTS) {
                    fail(TOO_MUCH);
                } else {
                    nots++;
                    advance();
                }
            }
            comparison(depth);
            for (int i = 0; i < nots; i++) {
                emit(Offer.NOT);
            }
        }

        private void comparison(int depth) {
            sum(depth);
            if (fault == 0 && (isSign('<') || isSign('='))) {
                int operation = value == '<' ? Offer.BELOW : Offer.SAME;
                advance();
                sum(depth);
                emit(operation);
            }
        }

        private void sum(int depth) {
            product(depth);
            for (int i = 0; i < LONGEST && fault == 0 && (isSign('+') || isSign('-')); i++) {
                int operation = value == '+' ? Offer.PLUS : Offer.MINUS;
                advance();
                product(depth);
                emit(operation);
            }
        }

        private void product(int depth) {
            part(depth);
            for (int i = 0; i < LONGEST && fault == 0 && (isSign('*') || isSign('/')); i++) {
                int operation = value == '*' ? Offer.TIMES : Offer.OVER;
                advance();
                part(depth);
                emit(operation);
            }
        }

        private void part(int depth) {
            if (fault != 0) {
                return;
            }
            if (isSign('(')) {
                advance();
                expression(depth + 1);
                pass(')');
            } else if (kind == NUMBER && value < 0) {
                fail(TOO_MUCH);
            } else if (kind == WORD && value < Offer.MOST) {
                fail(NO_VALUE);
            } else if (kind == NUMBER || kind == WORD) {
                emit(value);
                advance();
            } else {
                fail(CANT_STAND);
            }
        }

        private void pass(int sign) {
            if (fault != 0) {
                return;
            }
            if (isSign(sign)) {
                advance();
            } else {
                fail(CANT_STAND);
            }
        }

        private void fail(int number) {
            if (fault == 0) {
                fault = number;
                faultPlace = start;
            }
        }

        private void emit(int c) {
            if (codes >= 0 && codes < LONGEST) {
                code[codes] = c;
                codes++;
            }
        }

        private boolean isSign(int sign) {
            return kind == SIGN && value == sign;
        }

        private boolean isWord(int word) {
            return kind == WORD && value == word;
        }

        /** The byte at a place of the text; NONE behind its end. */
        private int byteAt(int i) {
            return i >= 0 && i < length && i < LONGEST ? tape[i] : NONE;
        }

        private void advance() {
            for (int i = 0; i < LONGEST && (byteAt(next) == ' ' || byteAt(next) == '\n'); i++) {
                next++;
            }
            start = next;
            int c = byteAt(next);
            if (c == NONE) {
                kind = END;
            } else if (isLetter(c)) {
                readWord();
            } else if (isDigit(c)) {
                readNumber();
            } else {
                value = c;
                kind = isKnownSign(c) ? SIGN : STRANGE;
                next++;
            }
        }

        private static boolean isLetter(int c) {
            return c >= 'a' && c <= 'z';
        }

        private static boolean isDigit(int c) {
            return c >= '0' && c <= '9';
        }

        private static boolean isKnownSign(int c) {
            return c == ';' || c == '<' || c == '=' || c >= '(' && c <= '+' || c == '-' || c == '/';
        }

        private void readNumber() {
            kind = NUMBER;
            value = 0;
            for (int i = 0; i < LONGEST && isDigit(byteAt(next)); i++) {
                // NONE marks a number that is too long
                value = i >= MOST_DIGITS ? NONE : value * 10 + byteAt(next) - '0';
                next++;
            }
        }

        private void readWord() {
            kind = WORD;
            for (int i = 0; i < LONGEST && isLetter(byteAt(next)); i++) {
                next++;
            }
            value = wordCode();
        }

        private int wordCode() {
            if (reads("unit")) {
                return Offer.UNIT;
            }
            if (reads("quarter")) {
                return Offer.QUARTER;
            }
            if (reads("load")) {
                return Offer.LOAD;
            }
            if (reads("true")) {
                return Offer.TRUE;
            }
            if (reads("most")) {
                return Offer.MOST;
            }
            if (reads("price")) {
                return Offer.PRICE;
            }
            if (reads("when")) {
                return Offer.WHEN;
            }
            if (reads("not")) {
                return Offer.NOT;
            }
            if (reads("and")) {
                return Offer.AND;
            }
            return reads("or") ? Offer.OR : Offer.UNKNOWN;
        }

        private boolean reads(String word) {
            if (start < 0 || next > LONGEST || word.length() != next - start) {
                return false;
            }
            for (int i = 0; i < word.length(); i++) {
                if (tape[start + i] != word.charAt(i)) {
                    return false;
                }
            }
            return true;
        }
    }

    /** The SHEETS; a number out of a sort's bounds never gets in. */
    private static final class Sheets {
        private static final int MOST = 12;
        private static final int LONGEST = 12;
        private static final int SHORTS = 2;
        private static final int MISSING = -1;

        private static final int IS_MISSING = 1;
        private static final int OTHER_SORT = 2;
        private static final int NO_PART = 3;
        private static final int OUT_OF_BOUNDS = 4;

        int many;
        private final int[][] rows = new int[MOST][LONGEST];
        private final int[] sorts = new int[MOST];
        private final int[] sizes = new int[MOST];

        boolean has(int sheet) {
            return sheet >= 0 && sheet < many && sheet < MOST;
        }

        int add(int sort, int size) {
            if (many >= MOST || !within(sort, 0, SHORTS)) {
                return NONE;
            }
            if (!within(size, MISSING, LONGEST)) {
                return -2;
            }
            sorts[many] = sort;
            sizes[many] = size;
            many++;
            return many - 1;
        }

        private boolean hasPart(int sheet, int at, int n) {
            return has(sheet) && at >= 0 && n >= 0 && n <= sizes[sheet] && at <= sizes[sheet] - n;
        }

        int put(int sheet, int at, int v) {
            if (!has(sheet) || sizes[sheet] == MISSING) {
                return IS_MISSING;
            }
            if (!hasPart(sheet, at, 1)) {
                return NO_PART;
            }
            if (sorts[sheet] == SHORTS && v != (short) v) {
                return OUT_OF_BOUNDS;
            }
            rows[sheet][at] = v;
            return 0;
        }

        int lay(int from, int at, int to, int on, int n) {
            if (!has(from) || !has(to) || sizes[from] == MISSING || sizes[to] == MISSING) {
                return IS_MISSING;
            }
            if (sorts[from] != sorts[to]) {
                return OTHER_SORT;
            }
            if (!hasPart(from, at, n) || !hasPart(to, on, n)) {
                return NO_PART;
            }
            System.arraycopy(rows[from], at, rows[to], on, n);
            return 0;
        }

        /** A number for each QUARTER (0 to most) is laid into day, if all are there and right. */
        int readDay(int sheet, int at, int most, int[] day) {
            if (!has(sheet) || sizes[sheet] == MISSING) {
                return IS_MISSING;
            }
            if (!hasPart(sheet, at, QUARTERS) || day.length < QUARTERS) {
                return NO_PART;
            }
            for (int q = 0; q < QUARTERS; q++) {
                if (!within(rows[sheet][at + q], 0, most)) {
                    return OUT_OF_BOUNDS;
                }
            }
            for (int q = 0; q < QUARTERS; q++) {
                day[q] = rows[sheet][at + q];
            }
            return 0;
        }
    }

    /**
     * The PLACES, LINES, MILLS and RULES, and how power parts.
     * Of each view (0: all LINES whole, 1 + l: LINE l fallen) a FLOW is the sum of share times
     * what is put in at each PLACE, over whole; whole is 0 if the PLACES aren't JOINED.
     */
    private static final class Land {
        private static final int VIEWS = 1 + LINES;
        /** Heights are told from PLACE 0 on, so that three of them are to be found. */
        private static final int HEIGHTS = PLACES - 1;

        int places;
        int lines;
        int mills;
        boolean fallsAsked;
        int slack;
        int wholes = 100;
        final int[][] loads = new int[PLACES][QUARTERS];
        private final Mill[] mill = new Mill[MILLS];
        private final int[] from = new int[LINES];
        private final int[] to = new int[LINES];
        private final int[] stiffness = new int[LINES];
        private final int[] most = new int[LINES];
        private final int[] whole = new int[VIEWS];
        private final int[][] share = new int[VIEWS][LINES * PLACES];
        private final int[][] pull = new int[HEIGHTS][HEIGHTS];
        private final int[][] turned = new int[HEIGHTS][HEIGHTS];

        Land() {
            for (int m = 0; m < MILLS; m++) {
                mill[m] = new Mill();
            }
            rework();
        }

        int addPlace() {
            if (places >= PLACES) {
                return NONE;
            }
            places++;
            rework();
            return places - 1;
        }

        int addLine(int a, int b, int stiff, int mostOnIt) {
            if (lines >= LINES) {
                return NONE;
            }
            from[lines] = a;
            to[lines] = b;
            stiffness[lines] = stiff;
            most[lines] = mostOnIt;
            lines++;
            rework();
            return lines - 1;
        }

        Mill millAt(int m) {
            return m >= 0 && m < MILLS ? mill[m] : mill[0];
        }

        int loadAt(int place, int quarter) {
            return place >= 0 && place < PLACES && hasQuarter(quarter) ? loads[place][quarter] : 0;
        }

        /** The MILL that is WATER, or NONE. */
        int water() {
            for (int m = 0; m < mills && m < MILLS; m++) {
                if (mill[m].kind == Mill.WATER) {
                    return m;
                }
            }
            return NONE;
        }

        /** What WATER can give at most, 0 without one. */
        int waterMost() {
            int m = water();
            return m == NONE ? 0 : millAt(m).most;
        }

        int fromOf(int line) {
            return line >= 0 && line < LINES ? from[line] : 0;
        }

        int toOf(int line) {
            return line >= 0 && line < LINES ? to[line] : 0;
        }

        int wholeOf(int view) {
            return view >= 0 && view < VIEWS ? whole[view] : 0;
        }

        int shareOf(int view, int line, int place) {
            if (view < 0 || view >= VIEWS || line < 0 || line >= LINES || place < 0 || place >= PLACES) {
                return 0;
            }
            return share[view][line * PLACES + place];
        }

        static int commonPart(int a, int b) {
            int x = Math.abs(a);
            int y = Math.abs(b);
            for (int i = 0; i < 100 && y > 0; i++) {
                int rest = x % y;
                x = y;
                y = rest;
            }
            return x;
        }

        private void rework() {
            for (int view = 0; view <= lines && view < VIEWS; view++) {
                fillPull(view);
                turn();
                whole[view] = 0;
                for (int i = 0; i < HEIGHTS; i++) {
                    whole[view] += pull[0][i] * turned[0][i];
                }
                fillShares(view);
            }
        }

        /** What goes off from each PLACE but the first, by heights; a PLACE that isn't there stands apart. */
        private void fillPull(int view) {
            for (int i = 0; i < HEIGHTS; i++) {
                Arrays.fill(pull[i], 0);
                pull[i][i] = i + 1 < places ? 0 : 1;
            }
            for (int l = 0; l < lines && l < LINES; l++) {
                if (view != l + 1) {
                    addPull(from[l] - 1, to[l] - 1, stiffness[l]);
                }
            }
        }

        private void addPull(int a, int b, int stiff) {
            boolean isA = a >= 0 && a < HEIGHTS;
            boolean isB = b >= 0 && b < HEIGHTS;
            if (isA) {
                pull[a][a] += stiff;
            }
            if (isB) {
                pull[b][b] += stiff;
            }
            if (isA && isB) {
                pull[a][b] -= stiff;
                pull[b][a] -= stiff;
            }
        }

        /** Turned over whole is what answers pull: heights by what is put in. */
        private void turn() {
            for (int i = 0; i < HEIGHTS; i++) {
                int i1 = (i + 1) % HEIGHTS;
                int i2 = (i + 2) % HEIGHTS;
                for (int j = 0; j < HEIGHTS; j++) {
                    int j1 = (j + 1) % HEIGHTS;
                    int j2 = (j + 2) % HEIGHTS;
                    turned[i][j] = pull[i1][j1] * pull[i2][j2] - pull[i1][j2] * pull[i2][j1];
                }
            }
        }

        private void fillShares(int view) {
            for (int l = 0; l < lines && l < LINES; l++) {
                int stiff = view == l + 1 ? 0 : stiffness[l];
                for (int p = 0; p < PLACES; p++) {
                    share[view][l * PLACES + p] = stiff * (height(from[l], p) - height(to[l], p));
                }
            }
        }

        private int height(int place, int put) {
            int i = place - 1;
            int j = put - 1;
            return i >= 0 && i < HEIGHTS && j >= 0 && j < HEIGHTS ? turned[i][j] : 0;
        }

        /** Whether no LINE is too full in a view; one whose fall parts the PLACES isn't asked. */
        boolean carries(int view, int[] put) {
            int parts = wholeOf(view);
            if (parts == 0) {
                return true;
            }
            int more = view == 0 ? 0 : slack;
            for (int l = 0; l < lines && l < LINES; l++) {
                int flow = 0;
                for (int p = 0; p < PLACES && p < put.length; p++) {
                    flow += shareOf(view, l, p) * put[p];
                }
                if (Math.abs(flow) > (most[l] + more) * parts) {
                    return false;
                }
            }
            return true;
        }
    }

    /** Finds THE LEAST of a QUARTER. */
    private static final class Dispatch {
        private static final int MOST_UNITS = 7;

        final int[] units = new int[MILLS];
        private final Land land;
        private int quarter;
        private int total;
        private int best;
        private final int[] loads = new int[PLACES];
        /** What is ASKED of the first units of each MILL together. */
        private final int[][] sums = new int[MILLS][MOST_UNITS + 1];
        private final int[] offered = new int[MILLS];
        private final int[] low = new int[MILLS];
        private final int[] high = new int[MILLS];
        private final int[] trial = new int[MILLS];
        private final int[] put = new int[PLACES];

        Dispatch(Land ofLand) {
            land = ofLand;
        }

        /** Looks at a QUARTER, with one LOAD more at a PLACE (NONE: as it is). */
        void open(int atQuarter, int morePlace) {
            quarter = atQuarter;
            total = 0;
            for (int p = 0; p < PLACES; p++) {
                loads[p] = land.loadAt(p, atQuarter) + (p == morePlace ? 1 : 0);
                total += loads[p];
            }
            for (int m = 0; m < MILLS; m++) {
                sums[m][0] = 0;
                offered[m] = 0;
                if (m < land.mills) {
                    askAll(m);
                }
            }
        }

        private void askAll(int m) {
            Mill mill = land.millAt(m);
            mill.offer.set(quarter, total, mill.cost, mill.most);
            for (int u = 1; u <= mill.most && u <= MOST_UNITS; u++) {
                int asked = mill.offer.ask(u);
                if (asked == NONE) {
                    return;
                }
                sums[m][u] = sums[m][u - 1] + asked;
                offered[m] = u;
            }
        }

        int askedOf(int m, int unit) {
            if (m < 0 || m >= MILLS || unit < 1 || unit > MOST_UNITS || unit > offered[m]) {
                return NONE;
            }
            return sums[m][unit] - sums[m][unit - 1];
        }

        /** What is ASKED of all units that a MILL makes by the latest search. */
        int coinOf(int m) {
            if (m < 0 || m >= MILLS) {
                return 0;
            }
            int made = units[m];
            return made >= 0 && made <= MOST_UNITS ? sums[m][made] : 0;
        }

        /** THE LEAST, its units kept in units; NONE: there is none, units stay. */
        int search(int on, int w, int hidden, int silentHouse) {
            best = NONE;
            if (land.wholeOf(0) != 0 && span(on, w, hidden, silentHouse)) {
                choose(0, total, 0);
            }
            return best;
        }

        /**
         * Tries all rows of units from MILL m on, with so many units left and so much coin so far.
         * A row that isn't cheaper is left: of like ones the first found is the first as a row.
         */
        private void choose(int m, int left, int coin) {
            if (best != NONE && coin >= best) {
                return;
            }
            if (m < 0 || m >= MILLS) {
                if (left == 0 && fits()) {
                    best = coin;
                    System.arraycopy(trial, 0, units, 0, MILLS);
                }
                return;
            }
            for (int u = low[m]; u <= high[m] && u <= left && u <= MOST_UNITS; u++) {
                if (u >= 0 && left - u <= roomBehind(m)) {
                    trial[m] = u;
                    choose(m + 1, left - u, coin + sums[m][u]);
                }
            }
        }

        /** What all MILLS behind m can make at most. */
        private int roomBehind(int m) {
            int room = 0;
            for (int i = m + 1; i < MILLS; i++) {
                room += high[i];
            }
            return room;
        }

        /** From where to where each MILL may go; false: one can't be. */
        private boolean span(int on, int w, int hidden, int silentHouse) {
            for (int m = 0; m < MILLS; m++) {
                low[m] = 0;
                high[m] = 0;
                Mill mill = land.millAt(m);
                if (m < land.mills && mill.house != silentHouse) {
                    low[m] = lowOf(mill, on >> m & 1, w);
                    high[m] = highOf(mill, on >> m & 1, w, Game.hiddenBy(hidden, mill.house));
                    high[m] = Math.min(high[m], offered[m]);
                }
                if (low[m] > high[m]) {
                    return false;
                }
            }
            return true;
        }

        private int lowOf(Mill mill, int on, int w) {
            if (mill.switched()) {
                return on == 0 ? 0 : mill.least;
            }
            return mill.kind == Mill.WATER ? w : 0;
        }

        private int highOf(Mill mill, int on, int w, int hidden) {
            if (mill.switched()) {
                return on == 0 ? 0 : Math.max(mill.least, mill.most - hidden);
            }
            if (mill.kind == Mill.WATER) {
                return w;
            }
            return Math.max(0, Math.min(mill.reach(quarter), mill.most - hidden));
        }

        private boolean fits() {
            for (int p = 0; p < PLACES; p++) {
                put[p] = -loads[p];
            }
            for (int m = 0; m < MILLS; m++) {
                int p = land.millAt(m).place;
                if (p >= 0 && p < PLACES) {
                    put[p] += trial[m];
                }
            }
            int views = land.fallsAsked ? land.lines + 1 : 1;
            for (int view = 0; view < views; view++) {
                if (!land.carries(view, put)) {
                    return false;
                }
            }
            return true;
        }
    }

    /** THE BEST as it was when it was found. */
    private static final class Best {
        int quarters;
        int places;
        int earned;
        final int[] on = new int[QUARTERS];
        /** What WATER gives. */
        final int[] given = new int[QUARTERS];
        final int[] coin = new int[QUARTERS];
        /** By QUARTERS, then MILLS. */
        final int[][] units = new int[QUARTERS][MILLS];
        /** By PLACES, then QUARTERS. */
        final int[][] prices = new int[PLACES][QUARTERS];
        final int[][] loads = new int[PLACES][QUARTERS];
        final int[] pay = new int[MILLS];
        final int[] spent = new int[MILLS];
        final int[] whole = new int[MILLS];

        void clear(int forQuarters, int withPlaces) {
            quarters = forQuarters;
            places = withPlaces;
            earned = 0;
            Arrays.fill(pay, 0);
            Arrays.fill(spent, 0);
            Arrays.fill(whole, 0);
        }

        /** A PRICE as it is counted with: 9999 if none. */
        int reckoned(int place, int quarter) {
            if (place < 0 || place >= PLACES || !hasQuarter(quarter)) {
                return 0;
            }
            int price = prices[place][quarter];
            return price == NO_PRICE ? DEAREST : price;
        }
    }

    /** Finds THE BEST: backward what each lake and ON ones can still come to, then forward the first such row. */
    private static final class Planner {
        private static final int IMPOSSIBLE = 100000000;
        private static final int ONS = 16;
        private static final int LAKES = 16;
        private static final int GIFTS = 8;

        private final Land land;
        private final Dispatch dispatch;
        private final Best best;
        /** THE LEAST of each QUARTER, by ON ones and w. */
        private final int[][] cost = new int[QUARTERS][ONS * GIFTS];
        /** The least COIN from a QUARTER on, by ON ones ahead of it and the lake. */
        private final int[][] rest = new int[QUARTERS + 1][ONS * LAKES];
        private int switched;
        private int waterMost;
        private int stream;
        private int mostLake;
        private int pickedOn;
        private int pickedW;

        Planner(Land ofLand, Dispatch byDispatch, Best intoBest) {
            land = ofLand;
            dispatch = byDispatch;
            best = intoBest;
        }

        int seek(int n, int onAtFirst) {
            int quarters = Math.max(1, Math.min(QUARTERS, n));
            int water = land.water();
            waterMost = land.waterMost();
            stream = water == NONE ? 0 : land.millAt(water).stream;
            int lake = water == NONE ? 0 : land.millAt(water).lake;
            mostLake = water == NONE ? 0 : LAKES - 1;
            switched = 0;
            for (int m = 0; m < land.mills && m < MILLS; m++) {
                switched |= land.millAt(m).switched() ? 1 << m : 0;
            }
            for (int q = 0; q < quarters; q++) {
                fillCost(q);
            }
            Arrays.fill(rest[quarters], 0);
            for (int q = quarters - 1; q >= 0; q--) {
                fillRest(q);
            }
            int before = onAtFirst & switched;
            int coin = restAt(0, before, lake);
            if (coin >= IMPOSSIBLE) {
                return NONE;
            }
            best.clear(quarters, land.places);
            pick(before, lake);
            for (int q = 0; q < quarters; q++) {
                keepQuarter(q, q == 0 ? before : best.on[q - 1]);
                keepPrices(q);
            }
            keepPay();
            return coin;
        }

        private void fillCost(int q) {
            dispatch.open(q, NONE);
            for (int on = 0; on < ONS; on++) {
                for (int w = 0; w < GIFTS; w++) {
                    int coin = NONE;
                    if ((on & ~switched) == 0 && w <= waterMost) {
                        coin = dispatch.search(on, w, NOTHING_HIDDEN, NONE);
                    }
                    cost[q][on * GIFTS + w] = coin == NONE ? IMPOSSIBLE : coin;
                }
            }
        }

        private void fillRest(int q) {
            for (int before = 0; before < ONS; before++) {
                for (int lake = 0; lake < LAKES; lake++) {
                    boolean can = (before & ~switched) == 0 && lake <= mostLake;
                    rest[q][before * LAKES + lake] = can ? cheapest(q, before, lake) : IMPOSSIBLE;
                }
            }
        }

        private int costAt(int q, int on, int w) {
            boolean there = hasQuarter(q) && on >= 0 && on < ONS && w >= 0 && w < GIFTS;
            return there ? cost[q][on * GIFTS + w] : IMPOSSIBLE;
        }

        private int restAt(int q, int on, int lake) {
            boolean there = q >= 0 && q <= QUARTERS && on >= 0 && on < ONS && lake >= 0 && lake < LAKES;
            return there ? rest[q][on * LAKES + lake] : IMPOSSIBLE;
        }

        private int lakeBehind(int lake, int w) {
            return Math.min(LAKES - 1, lake - w + stream);
        }

        /** The least COIN from QUARTER q on; the first ON ones and w that come to it are picked. */
        private int cheapest(int q, int before, int lake) {
            int least = IMPOSSIBLE;
            int most = Math.min(waterMost, lake);
            for (int on = 0; on < ONS; on++) {
                if ((on & ~switched) != 0 || !canStart(q, on & ~before)) {
                    continue;
                }
                int turning = turningCoin(before, on);
                for (int w = 0; w <= most; w++) {
                    int coin = turning + costAt(q, on, w) + restAt(q + 1, on, lakeBehind(lake, w));
                    if (coin < least) {
                        least = coin;
                        pickedOn = on;
                        pickedW = w;
                    }
                }
            }
            return least;
        }

        private boolean canStart(int q, int started) {
            for (int m = 0; m < MILLS; m++) {
                if ((started >> m & 1) == 1 && q < land.millAt(m).toStart) {
                    return false;
                }
            }
            return true;
        }

        private int turningCoin(int before, int on) {
            int coin = 0;
            for (int m = 0; m < land.mills && m < MILLS; m++) {
                coin += turningOf(m, before >> m & 1, on >> m & 1);
            }
            return coin;
        }

        /** Coin of a MILL for its start, or for waiting. */
        private int turningOf(int m, int before, int on) {
            Mill mill = land.millAt(m);
            if (!mill.switched()) {
                return 0;
            }
            if (on == 0) {
                return mill.waitCoin;
            }
            return before == 0 ? mill.startCoin : 0;
        }

        /** Goes forward along THE BEST. */
        private void pick(int onAtFirst, int lakeAtFirst) {
            int before = onAtFirst;
            int lake = lakeAtFirst;
            for (int q = 0; q < best.quarters && q < QUARTERS; q++) {
                cheapest(q, before, lake);
                best.on[q] = pickedOn;
                best.given[q] = pickedW;
                before = pickedOn;
                lake = lakeBehind(lake, pickedW);
            }
        }

        private void keepQuarter(int q, int before) {
            dispatch.open(q, NONE);
            best.coin[q] = dispatch.search(best.on[q], best.given[q], NOTHING_HIDDEN, NONE);
            for (int m = 0; m < MILLS; m++) {
                boolean there = m < land.mills;
                int turning = there ? turningOf(m, before >> m & 1, best.on[q] >> m & 1) : 0;
                best.units[q][m] = there ? dispatch.units[m] : 0;
                best.spent[m] += there ? dispatch.coinOf(m) + turning : 0;
            }
        }

        private void keepPrices(int q) {
            for (int p = 0; p < PLACES; p++) {
                best.loads[p][q] = land.loadAt(p, q);
                best.prices[p][q] = NO_PRICE;
                if (p < land.places) {
                    dispatch.open(q, p);
                    int coin = dispatch.search(best.on[q], best.given[q], NOTHING_HIDDEN, NONE);
                    best.prices[p][q] = coin == NONE ? NO_PRICE : coin - best.coin[q];
                }
            }
        }

        private void keepPay() {
            for (int q = 0; q < best.quarters && q < QUARTERS; q++) {
                for (int p = 0; p < land.places && p < PLACES; p++) {
                    best.earned += best.loads[p][q] * best.reckoned(p, q);
                }
                for (int m = 0; m < land.mills && m < MILLS; m++) {
                    best.pay[m] += best.units[q][m] * best.reckoned(land.millAt(m).place, q);
                }
            }
            for (int m = 0; m < MILLS; m++) {
                best.earned -= best.pay[m];
                best.whole[m] = Math.max(0, best.spent[m] - best.pay[m]) * land.wholes / 100;
            }
        }
    }

    /** THE GAME: what is HIDDEN by HOUSES 0, 1, 2 is one number, of base 3. */
    private static final class Game {
        private static final int STATES = 27;
        private static final int CHOICES = 3;
        private static final int RUIN = -1000000;

        boolean held;
        int state;
        private final Land land;
        private final Dispatch dispatch;
        private final int[] coins = new int[STATES];
        private final int[][] units = new int[STATES][MILLS];
        private final int[][] gains = new int[STATES][HOUSES];
        private final boolean[] seen = new boolean[STATES];

        Game(Land ofLand, Dispatch byDispatch) {
            land = ofLand;
            dispatch = byDispatch;
        }

        static int weightOf(int house) {
            return house == 0 ? 9 : house == 1 ? 3 : 1;
        }

        static int hiddenBy(int hidden, int house) {
            return hidden / weightOf(house) % CHOICES;
        }

        int gainOf(int hidden, int house) {
            return hidden >= 0 && hidden < STATES && hasHouse(house) ? gains[hidden][house] : RUIN;
        }

        int hold(int quarter) {
            fillUnits(quarter);
            for (int p = 0; p < land.places; p++) {
                addGains(quarter, p);
            }
            held = true;
            return play();
        }

        private void fillUnits(int quarter) {
            dispatch.open(quarter, NONE);
            for (int s = 0; s < STATES; s++) {
                coins[s] = dispatch.search(ALL_ON, 0, s, NONE);
                for (int m = 0; m < MILLS; m++) {
                    units[s][m] = dispatch.units[m];
                }
                Arrays.fill(gains[s], coins[s] == NONE ? RUIN : 0);
            }
        }

        /** What the MILLS at a PLACE gain their HOUSES. */
        private void addGains(int quarter, int place) {
            dispatch.open(quarter, place);
            for (int s = 0; s < STATES; s++) {
                if (coins[s] != NONE) {
                    int coin = dispatch.search(ALL_ON, 0, s, NONE);
                    addGainsAt(s, place, coin == NONE ? DEAREST : coin - coins[s]);
                }
            }
        }

        private void addGainsAt(int s, int place, int price) {
            for (int m = 0; m < land.mills && m < MILLS; m++) {
                Mill mill = land.millAt(m);
                if (mill.place == place && hasHouse(mill.house)) {
                    gains[s][mill.house] += units[s][m] * (price - mill.cost);
                }
            }
        }

        private int play() {
            for (int s = 0; s < STATES; s++) {
                seen[s] = false;
            }
            state = NOTHING_HIDDEN;
            seen[NOTHING_HIDDEN] = true;
            for (int round = 1; round <= STATES; round++) {
                int before = state;
                for (int house = 0; house < HOUSES; house++) {
                    state = bestFor(house, state);
                }
                if (state == before) {
                    return round;
                }
                if (wasSeen(state)) {
                    return -1 - round;
                }
                seen[state] = true;
            }
            return NONE;
        }

        private boolean wasSeen(int hidden) {
            return hidden < 0 || hidden >= STATES || seen[hidden];
        }

        /** What is HIDDEN when a HOUSE has taken what gains it most. */
        private int bestFor(int house, int hidden) {
            int others = hidden - hiddenBy(hidden, house) * weightOf(house);
            int best = others;
            for (int choice = 1; choice < CHOICES; choice++) {
                int other = others + choice * weightOf(house);
                if (gainOf(other, house) > gainOf(best, house)) {
                    best = other;
                }
            }
            return best;
        }
    }

    /** A NIGHT by minutes. */
    private static final class Night {
        static final int LONGEST = 1000;
        private static final int FULL_SPEED = 50000;
        private static final int RAMP_BELOW = 49900;
        private static final int CUT_BELOW = 49000;
        private static final int DARK_BELOW = 47500;
        private static final int NEVER = -1;

        boolean begun;
        boolean isDark;
        int speed;
        int gone;
        int cut;
        private final Land land;
        private int places;
        private int mills;
        private int ramp;
        private int cutMany;
        private final int[] loads = new int[PLACES];
        private final int[] order = new int[PLACES];
        private final int[] makes = new int[MILLS];
        private final int[] fallsAt = new int[MILLS];

        Night(Land ofLand) {
            land = ofLand;
        }

        boolean begin(int quarter, int units, int rampTold, int orderTold) {
            if (!within(rampTold, 1, 3) || !orderRight(orderTold) || !unitsRight(units)) {
                return false;
            }
            begun = true;
            isDark = false;
            speed = FULL_SPEED;
            gone = 0;
            cut = 0;
            cutMany = 0;
            ramp = rampTold;
            places = land.places;
            mills = land.mills;
            for (int p = 0; p < PLACES; p++) {
                loads[p] = land.loadAt(p, quarter);
                order[p] = orderTold >> 2 * p & 3;
            }
            for (int m = 0; m < MILLS; m++) {
                makes[m] = m < mills ? units >> 4 * m & 15 : 0;
                fallsAt[m] = NEVER;
            }
            return true;
        }

        private boolean orderRight(int orderTold) {
            int named = 0;
            for (int i = 0; i < land.places && i < PLACES; i++) {
                named |= 1 << (orderTold >> 2 * i & 3);
            }
            return named == (1 << land.places) - 1;
        }

        private boolean unitsRight(int units) {
            for (int m = 0; m < land.mills && m < MILLS; m++) {
                if ((units >> 4 * m & 15) > land.millAt(m).most) {
                    return false;
                }
            }
            return true;
        }

        boolean tellFall(int mill, int minute) {
            if (!begun || mill < 0 || mill >= mills || mill >= MILLS) {
                return false;
            }
            if (!within(minute, gone, LONGEST - 1) || fallsAt[mill] != NEVER) {
                return false;
            }
            fallsAt[mill] = minute;
            return true;
        }

        int pass(int n) {
            for (int i = 0; i < n && gone < LONGEST; i++) {
                if (!isDark) {
                    passOne();
                }
                gone++;
            }
            return speed;
        }

        private void passOne() {
            for (int m = 0; m < MILLS; m++) {
                if (fallsAt[m] == gone) {
                    makes[m] = 0;
                }
            }
            if (speed < RAMP_BELOW) {
                rampUp();
            }
            speed = Math.min(FULL_SPEED, speed - 50 * (loadNow() - madeNow()));
            if (speed < CUT_BELOW) {
                cutNext();
            }
            isDark = speed < DARK_BELOW;
        }

        /** A MILL that has fallen makes nothing, so it is left out here. */
        private void rampUp() {
            for (int m = 0; m < mills && m < MILLS; m++) {
                if (makes[m] > 0) {
                    makes[m] = Math.min(land.millAt(m).most, makes[m] + ramp);
                }
            }
        }

        private void cutNext() {
            if (cutMany >= 0 && cutMany < places && cutMany < PLACES) {
                cut |= 1 << order[cutMany];
                cutMany++;
            }
        }

        private int loadNow() {
            int sum = 0;
            for (int p = 0; p < PLACES; p++) {
                sum += (cut >> p & 1) == 0 ? loads[p] : 0;
            }
            return sum;
        }

        int madeNow() {
            int sum = 0;
            for (int m = 0; m < MILLS; m++) {
                sum += makes[m];
            }
            return sum;
        }
    }

    /**
     * THE WAY out of the dark. What is LIT (bits 0 to 3), ON (4 to 7), served (8 to 11) is one number;
     * these are gone through by how many ACTS lead there, in the order of the ACTS, so that the first
     * row found is THE SHORTEST.
     */
    private static final class Way {
        private static final int STATES = 4096;
        private static final int ACTS = 13;
        private static final int FIRST_LINE = 4;
        private static final int FIRST_LOAD = 9;
        private static final int UNSEEN = -1;

        int length;
        final int[] row = new int[ACTS];
        private final Land land;
        private int quarter;
        private int found;
        private final int[] queue = new int[STATES];
        /** The state ahead, and the ACT from there, as state times 16 and ACT. */
        private final int[] back = new int[STATES];

        Way(Land ofLand) {
            land = ofLand;
        }

        int seek(int ofQuarter) {
            quarter = ofQuarter;
            Arrays.fill(back, UNSEEN);
            back[0] = 0;
            queue[0] = 0;
            found = 1;
            int all = (1 << land.places) - 1;
            int goal = all | all << 8;
            for (int i = 0; i < found && i < STATES; i++) {
                int state = queue[i];
                if ((state & goal) == goal) {
                    return trace(state);
                }
                spread(state);
            }
            return NONE;
        }

        private void spread(int state) {
            for (int act = 0; act < ACTS; act++) {
                int to = behind(state, act);
                if (to >= 0 && to < STATES && back[to] == UNSEEN && found < STATES) {
                    back[to] = state << 4 | act;
                    queue[found] = to;
                    found++;
                }
            }
        }

        private int trace(int state) {
            length = 0;
            int at = state;
            for (int i = 0; i < ACTS && at > 0 && at < STATES; i++) {
                row[length] = back[at] & 15;
                length++;
                at = back[at] >> 4;
            }
            for (int i = 0; i < length / 2; i++) {
                int held = row[i];
                row[i] = row[length - 1 - i];
                row[length - 1 - i] = held;
            }
            return length;
        }

        /** The state behind an ACT; the same one if it can't be. */
        private int behind(int state, int act) {
            if (act < FIRST_LINE) {
                return act < land.mills && canComeOn(state, act)
                        ? state | 16 << act | 1 << land.millAt(act).place : state;
            }
            if (act < FIRST_LOAD) {
                return behindLine(state, act - FIRST_LINE);
            }
            int p = act - FIRST_LOAD;
            boolean lit = p < land.places && (state >> p & 1) == 1;
            int served = servedLoad(state) + land.loadAt(p, quarter);
            boolean can = lit && (state >> 8 + p & 1) == 0 && reachOfOn(state) >= served;
            return can ? state | 256 << p : state;
        }

        private int behindLine(int state, int line) {
            if (line >= land.lines) {
                return state;
            }
            int ends = 1 << land.fromOf(line) | 1 << land.toOf(line);
            return (state & ends) == 0 ? state : state | ends;
        }

        private boolean canComeOn(int state, int m) {
            Mill mill = land.millAt(m);
            if ((state >> 4 + m & 1) == 1) {
                return false;
            }
            if (mill.startsAlone) {
                return true;
            }
            boolean lit = (state >> mill.place & 1) == 1;
            return lit && reachOfOn(state) - servedLoad(state) >= mill.needs;
        }

        private int reachOfOn(int state) {
            int sum = 0;
            for (int m = 0; m < land.mills && m < MILLS; m++) {
                sum += (state >> 4 + m & 1) == 1 ? land.millAt(m).reach(quarter) : 0;
            }
            return sum;
        }

        private int servedLoad(int state) {
            int sum = 0;
            for (int p = 0; p < PLACES; p++) {
                sum += (state >> 8 + p & 1) == 1 ? land.loadAt(p, quarter) : 0;
            }
            return sum;
        }
    }
}
