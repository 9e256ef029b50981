/** A test of its own for each sentence on the tape and on OFFERS that names an edge (promises 9 to 12). */
public final class OfferSentencesTest {
    private static final Check c = new Check("OfferSentencesTest");
    private static final int LOWEST = Integer.MIN_VALUE;
    private static final int HIGHEST = Integer.MAX_VALUE;
    private static final String EIGHT = "price 1;when 1;price 1;when 1;price 1;when 1;price 1;when 1;";

    public static void main(String[] args) {
        feed();
        offer();
        fault();
        tokens();
        clauses();
        logic();
        sums();
        wraps();
        cantStand();
        tooMuch();
        noValue();
        firstFault();
        asked();
        values();
        askedArguments();
        c.end();
    }

    /** MILL 0: most 7, TRUE 40; MILL 1: a WIND of most 3, TRUE 6. LOADS 2, 5, 9, 18 in QUARTERS 0 to 3. */
    private static LightsMarket land() {
        LightsMarket x = new LightsMarket();
        Setup.places(x, 2);
        x.line(0, 1, 1, 99);
        x.mill(0, 0, 0, 7, 40, 0, 0, 0, 0);
        x.mill(1, 3, 0, 3, 6, 0, 0, 0, 0);
        x.sheet(0, 4);
        Setup.loads(x, 0, 0, 2, 4, 0, 9);
        Setup.loads(x, 0, 1, 0, 1, 9, 9);
        return x;
    }

    private static void asks(String text, int want) {
        asks(text, 1, 0, want);
    }

    private static void asks(String text, int unit, int quarter, int want) {
        LightsMarket x = land();
        c.due("'" + text + "'", 0, () -> Setup.offer(x, 0, text));
        c.due("'" + text + "' has no FAULT", -1, x::fault);
        c.due("'" + text + "' of " + unit + " in " + quarter, want, () -> x.asked(0, unit, quarter));
    }

    private static void faulty(String text, int fault, int place) {
        LightsMarket x = land();
        c.due("'" + text + "'", fault, () -> Setup.offer(x, 0, text));
        c.due("the place of '" + text + "'", place, x::fault);
        c.due("what is ASKED stays", 40, () -> x.asked(0, 1, 0));
    }

    private static void feed() {
        c.sentence("Twenty bytes come behind the tape, of each number the highest first", () -> {
            LightsMarket x = land();
            // "pric" "e 98" "76;w" "hen " "unit"
            c.due("20", 20, () -> x.feed(0x70726963, 0x65203938, 0x37363b77, 0x68656e20, 0x756e6974));
            // " < 3" ";" and bytes that don't count
            c.due("40", 40, () -> x.feed(0x203c2033, 0x3bffffff, -1, LOWEST, HIGHEST));
            c.due("offer", 0, () -> x.offer(0, 25));
            c.due("unit 2", 9876, () -> x.asked(0, 2, 0));
            c.due("unit 3", -1, () -> x.asked(0, 3, 0));
        });
        c.sentence("how many it has; NONE, and none come, if it would have more than 200", () -> {
            LightsMarket x = land();
            Setup.tell(x, "price 77;" + " ".repeat(171));
            c.due("180", 180, () -> x.count(7));
            c.due("200", 200, () -> x.feed(0x20202020, 0x20202020, 0x20202020, 0x20202020, 0x20202020));
            c.due("more than 200", -1, () -> x.feed(0x41414141, 0, 0, 0, 0));
            c.due("none come", 200, () -> x.count(7));
            c.due("all 200 are read", 0, () -> x.offer(0, 200));
            c.due("as they were", 77, () -> x.asked(0, 1, 0));
            c.due("room again", 20, () -> x.feed(0, 0, 0, 0, 0));
        });
    }

    private static void offer() {
        c.sentence("a text of a MILL of at most 200 bytes", () -> {
            LightsMarket x = land();
            Setup.tell(x, " ".repeat(191) + "price 55;");
            c.due("200 bytes", 0, () -> x.offer(0, 200));
            c.due("its last ones count", 55, () -> x.asked(0, 1, 0));
        });
        c.sentence("the one told last counts", () -> {
            LightsMarket x = land();
            Setup.offer(x, 0, "price 1; when unit < 2;");
            Setup.offer(x, 0, "price 2;");
            c.due("the last one", 2, () -> x.asked(0, 7, 0));
            c.due("of another MILL: TRUE", 6, () -> x.asked(1, 3, 0));
        });
        c.sentence("The tape's first n bytes (it is empty then) are a MILL's OFFER", () -> {
            LightsMarket x = land();
            Setup.tell(x, "price 1;2;price 3;");
            c.due("8 of 20", 0, () -> x.offer(0, 8));
            c.due("ASKED", 1, () -> x.asked(0, 1, 0));
            c.due("empty", 0, () -> x.count(7));
            Setup.tell(x, "price 4;");
            c.due("the next text stands first", 0, () -> x.offer(0, 20));
            c.due("ASKED", 4, () -> x.asked(0, 1, 0));
        });
        c.sentence("0, or the FAULT (what was told ahead stays)", () -> {
            LightsMarket x = land();
            c.due("told", 0, () -> Setup.offer(x, 0, "price 7;"));
            for (String bad : new String[] {"", "price", "price 8; price 123456;", "price 8; price foo;"}) {
                c.yes("'" + bad + "' has a FAULT", () -> Setup.offer(x, 0, bad) > 0);
                c.due("the tape is empty", 0, () -> x.count(7));
                c.due("what was told stays", 7, () -> x.asked(0, 1, 0));
            }
        });
        c.sentence("no such MILL (as everywhere; ahead of IllegalArgumentException)", () -> {
            LightsMarket x = land();
            Setup.tell(x, "price 7;");
            for (int bad : new int[] {-1, 2, 4, LOWEST, HIGHEST}) {
                c.missing("offer of " + bad, () -> x.offer(bad, 8));
                c.missing("offer of " + bad + ", n below 0", () -> x.offer(bad, -1));
                c.missing("offer of " + bad + ", not so many", () -> x.offer(bad, 21));
                c.missing("asked of " + bad, () -> x.asked(bad, 1, 0));
                c.missing("units of " + bad, () -> x.units(bad));
                c.missing("falls of " + bad, () -> x.falls(bad, 0) ? 1 : 0);
                c.missing("starts of " + bad, () -> x.starts(bad, true, 0) ? 1 : 0);
            }
            for (int bad : new int[] {-2, 2, 4, LOWEST, HIGHEST}) {
                c.missing("pays of " + bad, () -> x.pays(bad, 0));
            }
            c.due("the tape stays", 20, () -> x.count(7));
        });
        c.sentence("the tape has not so many, n below 0 (nothing changes)", () -> {
            LightsMarket x = land();
            c.refused("one of none", () -> x.offer(0, 1));
            Setup.offer(x, 0, "price 7 8;");
            Setup.tell(x, "price 9;");
            for (int bad : new int[] {-1, 21, 200, 201, LOWEST, HIGHEST}) {
                c.refused("n " + bad, () -> x.offer(0, bad));
            }
            c.due("the tape", 20, () -> x.count(7));
            c.due("the FAULT's place", 8, x::fault);
            c.due("what is ASKED", 40, () -> x.asked(0, 1, 0));
            c.due("all of it", 0, () -> x.offer(0, 20));
            c.due("what is ASKED then", 9, () -> x.asked(0, 1, 0));
        });
    }

    private static void fault() {
        c.sentence("The place of the latest offer()'s FAULT; NONE without.", () -> {
            LightsMarket x = land();
            c.due("no offer() yet", -1, x::fault);
            Setup.offer(x, 0, "price 1 1;");
            c.due("a FAULT", 8, x::fault);
            Setup.offer(x, 1, "foo");
            c.due("the latest one, of another MILL", 0, x::fault);
            Setup.offer(x, 0, "price 1;");
            c.due("none", -1, x::fault);
        });
    }

    private static void tokens() {
        c.sentence("words (a .. z, the longest row)", () -> {
            asks("price unit;", 3, 0, 3);
            asks("price7;", 7);
            asks("price(7)and(8);", 1);
            faulty("pricea 7;", 1, 0);
            faulty("priceunit;", 1, 0);
            faulty("price notunit;", 3, 6);
            faulty("price unitunit;", 3, 6);
            faulty("price 1 andunit;", 1, 8);
            faulty("price Unit;", 1, 6);
            faulty("price un1t;", 3, 6);
            faulty("price {;", 1, 6);
            faulty("price `;", 1, 6);
        });
        c.sentence("NUMBERS (1 to 5 digits)", () -> {
            asks("price 0;", 0);
            asks("price 9;", 9);
            asks("price 00009;", 9);
            asks("price 99999 - 90001;", 9998);
            faulty("price 100000;", 2, 6);
            faulty("price 7:;", 1, 7);
            faulty("price 1.5;", 1, 7);
        });
        c.sentence("signs ; ( ) + - * / < =", () -> {
            asks("price (9 - 2 * 3 + 8 / 4) * ((1 < 2) + (3 = 3));", 10);
            String others = "!\"#$%&',.:>?@[\\]^_`{|}~";
            for (int i = 0; i < others.length(); i++) {
                faulty("price 1 " + others.charAt(i) + " 2;", 1, 8);
            }
        });
        c.sentence("blanks (32, 10) between them count for nothing", () -> {
            asks("price 12;", 12);
            asks(" \n price\n12\n \n; \n", 12);
            asks("price(12);", 12);
            asks("price 1+ 2 *3;price\n4;", 11);
            faulty("price 1 2;", 1, 8);
            faulty("pri ce 12;", 1, 0);
            for (int other : new int[] {0, 9, 11, 13, 31, 127, 128, 160, 255}) {
                faulty("price 12 " + (char) other + ";", 1, 9);
                faulty((char) other + "price 12;", 1, 0);
            }
        });
    }

    private static void clauses() {
        c.sentence("OFFER: CLAUSE CLAUSE*.", () -> {
            faulty("", 1, 0);
            asks("price 3;", 3);
            asks("price 3;price 4;", 7);
            asks(EIGHT, 4);
        });
        c.sentence("CLAUSE: ('price' | 'when') EXPR ';'.", () -> {
            asks("price 3;", 3);
            asks("when 3;", 0);
            faulty("3;", 1, 0);
            faulty("unit 3;", 1, 0);
            faulty("not 3;", 1, 0);
            faulty("price;", 1, 5);
            faulty("when;", 1, 4);
            faulty("price 3", 1, 7);
            faulty("price 3;;", 1, 8);
        });
    }

    private static void logic() {
        c.sentence("EXPR: AND ('or' AND)*.", () -> {
            asks("price 0 or 0;", 0);
            asks("price 0 or 7;", 1);
            asks("price 0 or 0 or 0 or 7;", 1);
            asks("price 1 or 1 and 0;", 1);
            faulty("price or 1;", 3, 6);
            faulty("price 1 or;", 1, 10);
            faulty("price 1 or or 1;", 3, 11);
        });
        c.sentence("AND: NOT ('and' NOT)*.", () -> {
            asks("price 7;", 7);
            asks("price 7 and 8;", 1);
            asks("price 7 and 8 and 0;", 0);
            asks("price 0 and 0 or 1;", 1);
            faulty("price 1 and;", 1, 11);
            faulty("price 1 and or 1;", 3, 12);
        });
        c.sentence("NOT: 'not' NOT | SUM [('<' | '=') SUM].", () -> {
            asks("price not 7;", 0);
            asks("price not not 7;", 1);
            asks("price not 7 < 8;", 0);
            asks("price not 0 and 0;", 0);
            asks("price 1 + 1 = 2;", 1);
            asks("price 2 < 1 + 1;", 0);
            faulty("price 1 < 2 < 3;", 1, 12);
            faulty("price 1 = 2 = 3;", 1, 12);
            faulty("price 1 < 2 = 3;", 1, 12);
            faulty("price 1 <= 2;", 1, 9);
            faulty("price 1 = not 2;", 3, 10);
            faulty("price 1 not;", 1, 8);
            faulty("price < 2;", 1, 6);
            faulty("price 1 <;", 1, 9);
        });
    }

    private static void sums() {
        c.sentence("SUM: PRODUCT (('+' | '-') PRODUCT)*.", () -> {
            asks("price 9 - 4 - 3;", 2);
            asks("price 9 - 4 + 3;", 8);
            faulty("price + 1;", 1, 6);
            faulty("price - 1;", 1, 6);
            faulty("price 1 - - 1;", 1, 10);
            faulty("price 1 +;", 1, 9);
        });
        c.sentence("PRODUCT: PART (('*' | '/') PART)*.", () -> {
            asks("price 90 / 9 / 2;", 5);
            asks("price 9 / 2 * 2;", 8);
            asks("price 2 * 9 / 4;", 4);
            asks("price 1 + 2 * 3;", 7);
            faulty("price * 1;", 1, 6);
            faulty("price 1 * / 1;", 1, 10);
            faulty("price 2 * not 1;", 3, 10);
        });
        c.sentence("PART: NUMBER | VALUE | '(' EXPR ')'.", () -> {
            asks("price (1 or 0) + (not 0) * 2;", 3);
            asks("price (((((7)))));", 7);
            faulty("price ();", 1, 7);
            faulty("price (7;", 1, 8);
            faulty("price 7);", 1, 7);
            faulty("price (7 7);", 1, 9);
            faulty("price 7 (7);", 1, 8);
            faulty("price );", 1, 6);
        });
        c.sentence("VALUE: unit quarter load true most.", () -> {
            asks("price unit;", 7, 3, 7);
            asks("price quarter;", 7, 3, 3);
            asks("price load;", 7, 3, 18);
            asks("price true;", 7, 3, 40);
            asks("price most;", 7, 3, 7);
            faulty("price least;", 3, 6);
            faulty("price units;", 3, 6);
            faulty("price uni;", 3, 6);
        });
    }

    private static void wraps() {
        c.sentence("From the left; ints that wrap", () -> {
            asks("price 100 - 50 - 25;", 25);
            asks("price 100 / 5 * 5;", 100);
            // 65536 * 32768 is the least int: less one it is the highest
            asks("price 65536 * 32768 < 0;", 1);
            asks("price 0 < 65536 * 32768 - 1;", 1);
            asks("price 65536 * 65536 + 5;", 5);
            asks("price 99999 * 99999 * 0 + 3;", 3);
        });
        c.sentence("/ cut down to 0, by 0 gives 0", () -> {
            asks("price 7 / 2;", 3);
            asks("price 10 + (0 - 7) / 2;", 7);
            asks("price 10 + 7 / (0 - 2);", 7);
            asks("price 10 + (0 - 7) / (0 - 2);", 13);
            asks("price 10 + 1 / 2;", 10);
            asks("price 10 + (0 - 1) / 2;", 10);
            asks("price 10 + 7 / 0;", 10);
            asks("price 10 + 0 / 0;", 10);
            asks("price 10 + 7 / 0 * 3;", 10);
            asks("price 10 + 7 / load;", 1, 0, 13);
            // the least int by -1 wraps to itself
            asks("price 65536 * 32768 / (0 - 1) = 65536 * 32768;", 1);
        });
        c.sentence("tests, not, and, or are 1 or 0 (what isn't 0 holds)", () -> {
            asks("price (1 < 2) * 10 + (2 < 2) * 100 + (3 < 2) * 1000;", 10);
            asks("price (2 = 2) * 10 + (3 = 2) * 100;", 10);
            asks("price (not 0) * 10 + (not 5) * 100 + (not (0 - 5)) * 1000;", 10);
            asks("price (5 and 6) * 10 + (5 and 0) * 100 + (0 and 0) * 1000;", 10);
            asks("price (5 or 0) * 10 + (0 or 0) * 100;", 10);
            asks("price (0 - 1 and 0 - 2) + (0 or 0 - 3);", 2);
        });
    }

    private static void cantStand() {
        c.sentence("1 a TOKEN that can't stand there, or is none", () -> {
            faulty("7 price;", 1, 0);
            faulty("price 7 unit;", 1, 8);
            faulty("price 7 foo;", 1, 8);
            faulty("price 7 price 8;", 1, 8);
            faulty("price 7 123456;", 1, 8);
            faulty("price 7; 123456;", 1, 9);
            faulty("price 7 ? 8;", 1, 8);
            faulty("?", 1, 0);
            faulty("price (((((( ;", 1, 13);
            faulty("price (((((()", 1, 12);
        });
        c.sentence("(the text's length where it ends too soon)", () -> {
            faulty("", 1, 0);
            faulty(" ", 1, 1);
            faulty("price", 1, 5);
            faulty("price \n ", 1, 8);
            faulty("price 7", 1, 7);
            faulty("price 7   ", 1, 10);
            faulty("price (7", 1, 8);
            faulty("price not", 1, 9);
            faulty("price 7; when", 1, 13);
            faulty("price ((((((", 1, 12);
            faulty(" ".repeat(200), 1, 200);
            faulty("price" + "(".repeat(4) + "1+".repeat(90), 1, 189);
        });
    }

    private static void tooMuch() {
        c.sentence("2 one that can, but is too much: a NUMBER of 6 digits or more", () -> {
            asks("price 99999 / 99999;", 1);
            faulty("price 100000;", 2, 6);
            faulty("price 000000;", 2, 6);
            faulty("price 1 + 9999999999999;", 2, 10);
            faulty("price 1 < 123456;", 2, 10);
            faulty("price (123456);", 2, 7);
            faulty("price not 123456;", 2, 10);
            faulty("price " + "1".repeat(194), 2, 6);
        });
        c.sentence("the first TOKEN of the 9th CLAUSE", () -> {
            asks(EIGHT, 4);
            asks(EIGHT + " \n ", 4);
            faulty(EIGHT + "price 1;", 2, 60);
            faulty(EIGHT + " when 1;", 2, 61);
            faulty(EIGHT + "price", 2, 60);
            faulty(EIGHT + "unit", 1, 60);
            faulty(EIGHT + "1", 1, 60);
            faulty(EIGHT + ";", 1, 60);
        });
        c.sentence("of an EXPR within 6 others (a NUMBER, any word, a parenthesis)", () -> {
            asks("price (((((5)))));", 5);
            asks("price (((((5))))) + (((((6)))));", 11);
            faulty("price ((((((5", 2, 12);
            faulty("price ((((((123456", 2, 12);
            for (String word : new String[] {"unit", "most", "not", "and", "or", "price", "when", "foo"}) {
                faulty("price ((((((" + word, 2, 12);
            }
            faulty("price (((((((5", 2, 12);
            faulty("price (((((1 + (5", 2, 16);
            faulty("price not (((((not (5", 2, 20);
            for (String other : new String[] {")", ";", "+", "-", "*", "/", "<", "=", "?"}) {
                faulty("price ((((((" + other, 1, 12);
            }
        });
        c.sentence("the seventh 'not' side by side", () -> {
            asks("price not not not not not not 5;", 1);
            faulty("price not not not not not not not 5;", 2, 30);
            faulty("price not not not not not not not", 2, 30);
            faulty("price 1 and not not not not not not not 5;", 2, 36);
            asks("price not not not not not not (not not not not not not 5);", 1);
            asks("price not not not not not not 5 and not not not not not not 5;", 1);
        });
    }

    private static void noValue() {
        c.sentence("3 any word where a PART must stand that is no VALUE", () -> {
            for (String word : new String[] {"foo", "price", "when", "and", "or", "a", "z", "unitz", "zunit"}) {
                faulty("price " + word + ";", 3, 6);
                faulty("price 1 + " + word + ";", 3, 10);
                faulty("price 1 < " + word + ";", 3, 10);
                faulty("price not " + word + ";", 3, 10);
                faulty("price (" + word + ");", 3, 7);
                faulty("price (((((" + word, 3, 11);
            }
            faulty("price 1 + not 1;", 3, 10);
            faulty("price 1 * not 1;", 3, 10);
            faulty("price 1 < not 1;", 3, 10);
            faulty("price not not not not not not foo;", 3, 30);
        });
    }

    private static void firstFault() {
        c.sentence("FAULTS, the first along the text, at a TOKEN's first byte", () -> {
            faulty("price foo 123456 ?", 3, 6);
            faulty("price 123456 foo ?", 2, 6);
            faulty("price ? foo 123456", 1, 6);
            faulty("price 1;\n  price 1 +\n   foobar;", 3, 24);
            faulty("price 1;price 2;price 1234567890;", 2, 22);
            faulty("price 1 quarter;", 1, 8);
            LightsMarket x = land();
            Setup.tell(x, "price foo;");
            c.due("what is behind n isn't looked at", 1, () -> x.offer(0, 6));
            c.due("its place", 6, x::fault);
        });
    }

    private static void asked() {
        c.sentence("the sum of the 'price' ones", () -> {
            asks("when 1;", 0);
            asks("price 3;", 3);
            asks("price 3; when 7; price unit;", 5, 0, 8);
            asks("price 1;price 2;price 4;price 8;price 16;price 32;price 64;price 128;", 255);
        });
        c.sentence("(the sum 0 to 9999: what is below, above is taken for these)", () -> {
            asks("price 0;", 0);
            asks("price 0 - 1;", 0);
            asks("price 0 - 99999;", 0);
            asks("price 9999;", 9999);
            asks("price 10000;", 9999);
            asks("price 99999 * 20000;", 9999);
            asks("price 10000; price 0 - 1;", 9999);
            asks("price 10000; price 0 - 2;", 9998);
            asks("price 0 - 5; price 4;", 0);
            asks("price 0 - 5; price 6;", 1);
        });
        c.sentence("a unit for which some 'when' is 0 isn't OFFERED, nor are those above it", () -> {
            asks("when 0; price 3;", -1);
            asks("when 1; when 0; when 1;", -1);
            asks("when 0 - 1; price 3;", 3);
            int[] want = {3, 3, -1, -1, -1, -1, -1};
            for (int unit = 1; unit <= 7; unit++) {
                asks("price 3; when not unit = 3;", unit, 0, want[unit - 1]);
                asks("price 3; when 1 < unit;", unit, 0, -1);
                asks("price 3; when unit < 8;", unit, 0, 3);
            }
        });
        c.sentence("Without an OFFER: TRUE.", () -> {
            LightsMarket x = land();
            for (int unit = 1; unit <= 7; unit++) {
                int u = unit;
                c.due("TRUE", 40, () -> x.asked(0, u, 0));
            }
            Setup.offer(x, 0, "price");
            c.due("a FAULT is no OFFER", 40, () -> x.asked(0, 1, 0));
        });
    }

    private static void values() {
        c.sentence("VALUES: unit; quarter; load: all LOADS of that QUARTER; true, most: the MILL's.", () -> {
            LightsMarket x = land();
            String text = "price unit + quarter * 10 + load * 100;";
            c.due("offer", 0, () -> Setup.offer(x, 0, text));
            c.due("unit 1, QUARTER 0, LOADS 2", 201, () -> x.asked(0, 1, 0));
            c.due("unit 7, QUARTER 1, LOADS 5", 517, () -> x.asked(0, 7, 1));
            c.due("unit 2, QUARTER 3, LOADS 18", 1832, () -> x.asked(0, 2, 3));
            Setup.offer(x, 0, "price true * 10 + most;");
            Setup.offer(x, 1, "price true * 10 + most;");
            c.due("of MILL 0", 407, () -> x.asked(0, 1, 0));
            c.due("of MILL 1, a WIND that doesn't come", 63, () -> x.asked(1, 1, 0));
            Setup.offer(x, 0, "price load;");
            Setup.loads(x, 0, 1, 9, 9, 9, 9);
            c.due("LOADS as they are now", 11, () -> x.asked(0, 1, 0));
        });
    }

    private static void askedArguments() {
        c.sentence("ASKED of a unit (1 to most) in a QUARTER", () -> {
            LightsMarket x = land();
            c.due("unit 1", 40, () -> x.asked(0, 1, 0));
            c.due("unit 7 of 7", 40, () -> x.asked(0, 7, 0));
            c.due("unit 3 of 3", 6, () -> x.asked(1, 3, 0));
        });
        c.sentence("NoSuchElementException: also no such QUARTER (as everywhere), unit.", () -> {
            LightsMarket x = land();
            for (int bad : new int[] {-1, 4, LOWEST, HIGHEST}) {
                c.missing("QUARTER " + bad, () -> x.asked(0, 1, bad));
            }
            for (int bad : new int[] {0, -1, 8, LOWEST, HIGHEST}) {
                c.missing("unit " + bad, () -> x.asked(0, bad, 0));
            }
            c.missing("unit 4 of 3", () -> x.asked(1, 4, 0));
            Setup.offer(x, 0, "when 0;");
            c.missing("unit 8, none being OFFERED", () -> x.asked(0, 8, 0));
        });
        c.sentence("What is ASKED of a unit; NONE: it isn't OFFERED.", () -> {
            LightsMarket x = land();
            Setup.offer(x, 0, "price unit; when unit < 4;");
            c.due("unit 3", 3, () -> x.asked(0, 3, 0));
            c.due("unit 4", -1, () -> x.asked(0, 4, 0));
            c.due("unit 7", -1, () -> x.asked(0, 7, 0));
        });
    }
}
