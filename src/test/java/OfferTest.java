/** Promises 9 to 12: the tape, OFFERS, FAULTS and what is ASKED. */
public final class OfferTest {
    private static final Check c = new Check("OfferTest");

    public static void main(String[] args) {
        tape();
        tapeBytes();
        offerArguments();
        askedArguments();
        values();
        arithmetic();
        logic();
        order();
        clauses();
        held();
        clamped();
        faultsThatCantStand();
        faultsTooMuch();
        faultsNoValue();
        faultsStay();
        lastTold();
        c.end();
    }

    /** A MILL (most 7, TRUE 40, least 2), LOADS 3 and 4 in QUARTER 1, 1 in QUARTER 3. */
    private static LightsMarket land() {
        LightsMarket x = new LightsMarket();
        Setup.places(x, 2);
        x.line(0, 1, 1, 99);
        x.mill(0, 0, 0, 7, 40, 2, 0, 0, 0);
        x.mill(1, 3, 1, 5, 7, 0, 0, 0, 0);
        x.sheet(0, 4);
        Setup.loads(x, 0, 0, 0, 3, 0, 1);
        Setup.loads(x, 0, 1, 0, 4, 0, 0);
        return x;
    }

    private static void tape() {
        LightsMarket x = new LightsMarket();
        for (int i = 1; i <= 10; i++) {
            int bytes = 20 * i;
            c.due("feed", bytes, () -> x.feed(1, 2, 3, 4, 5));
        }
        c.due("feed above 200", -1, () -> x.feed(1, 2, 3, 4, 5));
        c.due("bytes", 200, () -> x.count(7));
        x.place();
        x.mill(0, 3, 0, 1, 1, 0, 0, 0, 0);
        c.due("empty behind a fault", 1, () -> x.offer(0, 200));
        c.due("bytes behind an offer", 0, () -> x.count(7));
        c.due("feed again", 20, () -> x.feed(1, 2, 3, 4, 5));
        c.due("no bytes at all", 1, () -> x.offer(0, 0));
        c.due("bytes behind an empty offer", 0, () -> x.count(7));
        c.due("none left", 1, () -> x.offer(0, 0));
    }

    /** Each number's highest byte is the first. */
    private static void tapeBytes() {
        LightsMarket x = land();
        // "pric" "e 12" "345 " "+  5" ";   "
        x.feed(0x70726963, 0x65203132, 0x33343520, 0x2b202035, 0x3b202020);
        c.due("price 12345 +  5;", 0, () -> x.offer(0, 20));
        c.due("ASKED is at most 9999", 9999, () -> x.asked(0, 1, 0));
        x.feed(0x70726963, 0x65203132, 0x33202f20, 0x2037203b, 0xffffffff);
        c.due("price 123 /  7 ;", 0, () -> x.offer(0, 16));
        c.due("123 / 7", 17, () -> x.asked(0, 1, 0));
        x.feed(0x70726963, 0x65203132, 0x33202f20, 0x2037203b, 0xff3b3b3b);
        c.due("byte 255", 1, () -> x.offer(0, 17));
        c.due("byte 255's place", 16, x::fault);
        x.feed(0x70726963, 0x65203132, 0x33202f20, 0x2037203b, 0x80000000);
        c.due("byte 128", 1, () -> x.offer(0, 20));
        c.due("byte 128's place", 16, x::fault);
    }

    private static void offerArguments() {
        LightsMarket x = land();
        x.feed(0x70726963, 0x65203132, 0x33202f20, 0x2037203b, 0);
        c.missing("no such mill", () -> x.offer(2, 16));
        c.missing("mill -1", () -> x.offer(-1, 16));
        c.missing("no such mill ahead of not so many", () -> x.offer(2, 21));
        c.refused("not so many", () -> x.offer(0, 21));
        c.refused("below 0", () -> x.offer(0, -1));
        c.due("nothing changed on the tape", 20, () -> x.count(7));
        c.due("nothing changed in what is asked", 40, () -> x.asked(0, 1, 0));
        c.due("told", 0, () -> x.offer(0, 16));
        c.due("no fault", -1, x::fault);
        c.due("a fault", 1, () -> Setup.offer(x, 0, "price ; "));
        c.due("its place", 6, x::fault);
        c.refused("not so many", () -> x.offer(0, 1));
        c.due("its place still", 6, x::fault);
        c.missing("no such mill", () -> x.offer(3, 0));
        c.due("its place even now", 6, x::fault);
        c.due("none again", 0, () -> Setup.offer(x, 1, "price 1;"));
        c.due("its place is gone", -1, x::fault);
    }

    private static void askedArguments() {
        LightsMarket x = land();
        c.missing("no such mill", () -> x.asked(2, 1, 0));
        c.missing("mill -1", () -> x.asked(-1, 1, 0));
        c.missing("no such quarter", () -> x.asked(0, 1, 4));
        c.missing("quarter -1", () -> x.asked(0, 1, -1));
        c.missing("unit 0", () -> x.asked(0, 0, 0));
        c.missing("unit 8", () -> x.asked(0, 8, 0));
        c.missing("unit 6 of 5", () -> x.asked(1, 6, 0));
        c.due("unit 5 of 5, TRUE", 7, () -> x.asked(1, 5, 0));
        c.due("unit 7 of 7, TRUE", 40, () -> x.asked(0, 7, 3));
    }

    /** What a unit of MILL 0 is ASKED, by an OFFER. */
    private static void asks(String text, int unit, int quarter, int want) {
        LightsMarket x = land();
        c.due("'" + text + "'", 0, () -> Setup.offer(x, 0, text));
        c.due("'" + text + "' place", -1, x::fault);
        c.due("'" + text + "' of " + unit + " in " + quarter, want, () -> x.asked(0, unit, quarter));
    }

    private static void values() {
        asks("price unit;", 1, 0, 1);
        asks("price unit;", 7, 0, 7);
        asks("price quarter;", 1, 0, 0);
        asks("price quarter;", 1, 3, 3);
        asks("price load;", 1, 0, 0);
        asks("price load;", 1, 1, 7);
        asks("price load;", 1, 3, 1);
        asks("price true;", 1, 0, 40);
        asks("price most;", 1, 0, 7);
        asks("price 0;", 1, 0, 0);
        asks("price 00012;", 1, 0, 12);
        asks("price 9998;", 1, 0, 9998);
        LightsMarket x = land();
        Setup.offer(x, 1, "price most * 100 + true;");
        c.due("a wind's most is not what comes", 507, () -> x.asked(1, 5, 0));
    }

    private static void arithmetic() {
        asks("price 7 + 3;", 1, 0, 10);
        asks("price 7 - 3;", 1, 0, 4);
        asks("price 7 * 3;", 1, 0, 21);
        asks("price 7 / 3;", 1, 0, 2);
        asks("price 100 + (0 - 7) / 2;", 1, 0, 97);
        asks("price 100 + 7 / (0 - 2);", 1, 0, 97);
        asks("price 5 + 7 / 0;", 1, 0, 5);
        asks("price 5 + 7 / (3 - 3);", 1, 0, 5);
        asks("price 20 - 5 - 3;", 1, 0, 12);
        asks("price 20 / 5 / 2;", 1, 0, 2);
        asks("price 2 + 3 * 4;", 1, 0, 14);
        asks("price (2 + 3) * 4;", 1, 0, 20);
        asks("price 3 * 4 - 2;", 1, 0, 10);
        asks("price 7 / 2 * 2;", 1, 0, 6);
        asks("price 2 * 7 / 4;", 1, 0, 3);
        // 65536 * 65536 wraps to 0, 46341 * 46341 to a number below 0
        asks("price 65536 * 65536 + 7;", 1, 0, 7);
        asks("price 46341 * 46341 < 0;", 1, 0, 1);
        asks("price 65536 * 32768 - 1 < 0;", 1, 0, 0);
        asks("price 65536 * 32768 / (0 - 1) < 0;", 1, 0, 1);
        asks("price(5)+unit*(most-quarter);", 2, 1, 17);
    }

    private static void logic() {
        asks("price 3 < 4;", 1, 0, 1);
        asks("price 4 < 4;", 1, 0, 0);
        asks("price 5 < 4;", 1, 0, 0);
        asks("price 4 = 4;", 1, 0, 1);
        asks("price 3 = 4;", 1, 0, 0);
        asks("price not 0;", 1, 0, 1);
        asks("price not 5;", 1, 0, 0);
        asks("price not not 5;", 1, 0, 1);
        asks("price not not not not not not 5;", 1, 0, 1);
        asks("price 5 and 6;", 1, 0, 1);
        asks("price 5 and 0;", 1, 0, 0);
        asks("price 0 and 6;", 1, 0, 0);
        asks("price 5 or 0;", 1, 0, 1);
        asks("price 0 or 6;", 1, 0, 1);
        asks("price 0 or 0;", 1, 0, 0);
        asks("price 0 - 5 and 1;", 1, 0, 1);
    }

    private static void order() {
        asks("price 1 or 0 and 0;", 1, 0, 1);
        asks("price (1 or 0) and 0;", 1, 0, 0);
        asks("price 0 and 0 or 1;", 1, 0, 1);
        asks("price 1 and 1 and 0;", 1, 0, 0);
        asks("price 0 or 0 or 3;", 1, 0, 1);
        asks("price not 3 < 4;", 1, 0, 0);
        asks("price (not 3) < 4;", 1, 0, 1);
        asks("price not 1 or 1;", 1, 0, 1);
        asks("price not 0 and 0;", 1, 0, 0);
        asks("price 2 + 2 = 4;", 1, 0, 1);
        asks("price 4 = 2 + 2;", 1, 0, 1);
        asks("price 5 < 2 * 3;", 1, 0, 1);
        asks("price 2 < 3 and 3 < 4;", 1, 0, 1);
        asks("price 2 < 3 and not 3 < 4;", 1, 0, 0);
        asks("price (2 < 3) + (3 < 4) * 10;", 1, 0, 11);
        asks("price (((((7)))));", 1, 0, 7);
        asks("price (((((7))))) + (((((8)))));", 1, 0, 15);
        asks("price\n\n7\n;\n", 1, 0, 7);
        asks("price 7;      ", 1, 0, 7);
        asks("   price 7;", 1, 0, 7);
    }

    private static void clauses() {
        asks("price 7; price unit;", 2, 0, 9);
        asks("price 1;price 2;price 4;price 8;price 16;price 32;price 64;price 128;", 1, 0, 255);
        asks("when 1;", 1, 0, 0);
        asks("when 0;", 1, 0, -1);
        asks("when 0 - 1; price 5;", 1, 0, 5);
        asks("price 5; when unit < 4;", 3, 0, 5);
        asks("price 5; when unit < 4;", 4, 0, -1);
        asks("when 1; when 1; when 0; price 5;", 1, 0, -1);
        asks("price 5; when quarter = 2;", 1, 2, 5);
        asks("price 5; when quarter = 2;", 1, 1, -1);
        asks("price 5; when load < 7;", 1, 3, 5);
        asks("price 5; when load < 7;", 1, 1, -1);
    }

    /** A unit that isn't OFFERED keeps those above from being so. */
    private static void held() {
        asks("price unit; when not unit = 3;", 2, 0, 2);
        asks("price unit; when not unit = 3;", 3, 0, -1);
        asks("price unit; when not unit = 3;", 4, 0, -1);
        asks("price unit; when not unit = 3;", 7, 0, -1);
        asks("price unit; when 1 < unit;", 5, 0, -1);
    }

    private static void clamped() {
        asks("price 9999;", 1, 0, 9999);
        asks("price 10000;", 1, 0, 9999);
        asks("price 99999;", 1, 0, 9999);
        asks("price 0 - 1;", 1, 0, 0);
        asks("price 9000; price 9000;", 1, 0, 9999);
        asks("price 0 - 50; price 60;", 1, 0, 10);
        asks("price 20000; price 0 - 15000;", 1, 0, 5000);
        asks("price 65536 * 32767; price 65536 * 32767;", 1, 0, 0);
    }

    private static void faulty(String text, int fault, int place) {
        LightsMarket x = land();
        Setup.tell(x, text);
        c.due("'" + text + "'", fault, () -> x.offer(0, text.length()));
        c.due("'" + text + "' place", place, x::fault);
        c.due("'" + text + "' isn't taken", 40, () -> x.asked(0, 1, 0));
    }

    private static void faultsThatCantStand() {
        faulty("", 1, 0);
        faulty("   ", 1, 3);
        faulty("7;", 1, 0);
        faulty("  unit", 1, 2);
        faulty("pricing 7;", 1, 0);
        faulty("price", 1, 5);
        faulty("price  ", 1, 7);
        faulty("price ;", 1, 6);
        faulty("price 7", 1, 7);
        faulty("price 7 ", 1, 8);
        faulty("price 7 8;", 1, 8);
        faulty("price 7 123456;", 1, 8);
        faulty("price 7 unit;", 1, 8);
        faulty("price 7 foo;", 1, 8);
        faulty("price 7; 8;", 1, 9);
        faulty("price 7; unit;", 1, 9);
        faulty("price 7;;", 1, 8);
        faulty("price 7 price 8;", 1, 8);
        faulty("price + 7;", 1, 6);
        faulty("price -7;", 1, 6);
        faulty("price 7 +;", 1, 9);
        faulty("price 7 * - 8;", 1, 10);
        faulty("price (7;", 1, 8);
        faulty("price 7);", 1, 7);
        faulty("price ();", 1, 7);
        faulty("price 1 < 2 < 3;", 1, 12);
        faulty("price 1 = 2 = 3;", 1, 12);
        faulty("price 1 < 2 = 3;", 1, 12);
        faulty("price 7 not 8;", 1, 8);
        faulty("price A;", 1, 6);
        faulty("price 7 > 8;", 1, 8);
        faulty("price 7,;", 1, 7);
        faulty("price 7\t;", 1, 7);
        faulty("price unitX;", 1, 10);
        faulty("Price 7;", 1, 0);
        faulty("price 7 and ;", 1, 12);
        faulty("price not ;", 1, 10);
        faulty("price 1; when 1", 1, 15);
        faulty("price ((((((;", 1, 12);
        faulty("price (((((()", 1, 12);
        faulty("price ((((((", 1, 12);
        faulty("price ((((((+", 1, 12);
        String eight = "price 1;price 1;price 1;price 1;price 1;price 1;price 1;price 1;";
        faulty(eight + " 7", 1, 65);
        faulty(eight + "foo", 1, 64);
        faulty(eight + ";", 1, 64);
        String long200 = "price" + " ".repeat(195);
        faulty(long200, 1, 200);
    }

    private static void faultsTooMuch() {
        faulty("price 123456;", 2, 6);
        faulty("price 000000;", 2, 6);
        faulty("price 1 + 1234567;", 2, 10);
        faulty("price 12345678901234567890;", 2, 6);
        faulty("price (123456;", 2, 7);
        faulty("price ((((((7", 2, 12);
        faulty("price ((((((unit", 2, 12);
        faulty("price ((((((foo", 2, 12);
        faulty("price ((((((not", 2, 12);
        faulty("price ((((((price", 2, 12);
        faulty("price (((((((7", 2, 12);
        faulty("price ((((((123456", 2, 12);
        faulty("price (((((7))))) + ((((( (7", 2, 27);
        faulty("price not not not not not not not 1;", 2, 30);
        faulty("price 1 and not not not not not not not 1;", 2, 36);
        String eight = "price 1;when 1;price 1;when 1;price 1;when 1;price 1;when 1;";
        faulty(eight + "price 1;", 2, 60);
        faulty(eight + "  when 1;", 2, 62);
        LightsMarket x = land();
        c.due("eight clauses", 0, () -> Setup.offer(x, 0, eight + "  "));
        c.due("six nots apart from six", 0, () -> Setup.offer(x, 0,
                "price not not not not not not (not not not not not not 1);"));
    }

    private static void faultsNoValue() {
        faulty("price foo;", 3, 6);
        faulty("price 1 + foo;", 3, 10);
        faulty("price units;", 3, 6);
        faulty("price price;", 3, 6);
        faulty("price when;", 3, 6);
        faulty("price and;", 3, 6);
        faulty("price or 1;", 3, 6);
        faulty("price 1 + not 1;", 3, 10);
        faulty("price 1 < not 1;", 3, 10);
        faulty("price not foo;", 3, 10);
        faulty("price not not not not not not foo;", 3, 30);
        faulty("price (((((foo;", 3, 11);
        faulty("when 1 or when 1;", 3, 10);
        faulty("price a;", 3, 6);
        faulty("price z;", 3, 6);
        faulty("price azz;", 3, 6);
        faulty("price xnit;", 3, 6);
        faulty("price unix;", 3, 6);
        faulty("zprice 7;", 1, 0);
        faulty("xrice 7;", 1, 0);
        faulty("price 12z;", 1, 8);
        faulty("price unit7;", 1, 10);
    }

    /** The first FAULT along the text counts, and what was told ahead stays. */
    private static void faultsStay() {
        LightsMarket x = land();
        c.due("told", 0, () -> Setup.offer(x, 0, "price 77;"));
        c.due("two faults", 3, () -> Setup.offer(x, 0, "price 1; price foo; 9"));
        c.due("the first one's place", 15, x::fault);
        c.due("stays", 77, () -> x.asked(0, 1, 0));
        c.due("a fault of another mill", 1, () -> Setup.offer(x, 1, "price"));
        c.due("TRUE stays", 7, () -> x.asked(1, 1, 0));
    }

    private static void lastTold() {
        LightsMarket x = land();
        Setup.offer(x, 0, "price 1; when unit < 3;");
        c.due("unit 3 isn't offered", -1, () -> x.asked(0, 3, 0));
        Setup.offer(x, 0, "price 2;");
        c.due("the last one counts", 2, () -> x.asked(0, 3, 0));
        c.due("of that mill alone", 7, () -> x.asked(1, 3, 0));
        Setup.tell(x, "price 1;price 200000;");
        c.due("the first bytes alone", 0, () -> x.offer(1, 8));
        c.due("are the offer", 1, () -> x.asked(1, 3, 0));
    }
}
