/** What tests lay out again and again. */
final class Setup {
    private Setup() {
    }

    static void places(LightsMarket x, int many) {
        for (int i = 0; i < many; i++) {
            x.place();
        }
    }

    /** LOADS of a PLACE for QUARTERS 0 to 3, on a SHEET that is made for them. */
    static int loads(LightsMarket x, int sheet, int place, int a, int b, int c, int d) {
        return day(x, 0, sheet, place, a, b, c, d);
    }

    static int comes(LightsMarket x, int sheet, int mill, int a, int b, int c, int d) {
        return day(x, 1, sheet, mill, a, b, c, d);
    }

    private static int day(LightsMarket x, int what, int sheet, int number, int a, int b, int c, int d) {
        x.write(sheet, 0, a);
        x.write(sheet, 1, b);
        x.write(sheet, 2, c);
        x.write(sheet, 3, d);
        return x.day(what, number, sheet, 0);
    }

    static void tell(LightsMarket x, String text) {
        byte[] bytes = text.getBytes(java.nio.charset.StandardCharsets.ISO_8859_1);
        for (int i = 0; i < bytes.length; i += 20) {
            int[] row = new int[5];
            for (int k = 0; k < 20; k++) {
                int b = i + k < bytes.length ? bytes[i + k] & 255 : 32;
                row[k / 4] = row[k / 4] << 8 | b;
            }
            x.feed(row[0], row[1], row[2], row[3], row[4]);
        }
    }

    static int offer(LightsMarket x, int mill, String text) {
        tell(x, text);
        return x.offer(mill, text.length());
    }

    /** Its GAME in QUARTER 0 is behind the second ROUND as at first. */
    static LightsMarket goesRoundToTheFirst() {
        LightsMarket x = new LightsMarket();
        places(x, 2);
        x.line(0, 1, 3, 4);
        x.sheet(0, 4);
        x.mill(1, 3, 0, 2, 35, 0, 0, 0, 0);
        x.mill(0, 0, 0, 6, 30, 1, 0, 0, 0);
        x.mill(1, 0, 2, 3, 10, 0, 0, 0, 0);
        x.mill(0, 0, 1, 5, 35, 0, 0, 0, 0);
        comes(x, 0, 0, 5, 5, 5, 5);
        loads(x, 0, 0, 2, 2, 2, 2);
        loads(x, 0, 1, 5, 5, 5, 5);
        return x;
    }

    /** Its GAME in QUARTER 0 is behind the third ROUND as behind an earlier one. */
    static LightsMarket goesRoundToALaterOne() {
        LightsMarket x = new LightsMarket();
        places(x, 3);
        x.line(0, 1, 2, 6);
        x.line(1, 2, 3, 2);
        x.line(0, 2, 2, 1);
        x.sheet(0, 4);
        x.mill(1, 0, 1, 1, 35, 1, 0, 0, 0);
        x.mill(1, 0, 1, 4, 10, 0, 0, 0, 0);
        x.mill(0, 0, 2, 7, 35, 0, 0, 0, 0);
        x.mill(2, 0, 2, 7, 5, 1, 0, 0, 0);
        loads(x, 0, 0, 1, 1, 1, 1);
        loads(x, 0, 1, 6, 6, 6, 6);
        loads(x, 0, 2, 4, 4, 4, 4);
        return x;
    }
}
