/** Short ways to make objects and fill shelves in tests. */
final class Sea {
    static final int BYTES = 0;
    static final int SHORTS = 1;
    static final int INTS = 2;

    private Sea() {
    }

    /** A new object with a fleet read from a text; its shelves are empty again. */
    static Ships of(String text) {
        Ships sea = new Ships();
        int answer = read(sea, text);
        if (answer < 0) {
            throw new AssertionError("the test's own text is refused: " + text + " " + answer);
        }
        sea.keep(7, 0, 0, 0);
        return sea;
    }

    /** Reads a text by shelf 7. */
    static int read(Ships sea, String text) {
        text(sea, 7, text);
        return sea.fleet(7);
    }

    static void text(Ships sea, int d, String text) {
        sea.row(d, BYTES, text.length());
        for (int i = 0; i < text.length(); i++) {
            sea.put(d, i, text.charAt(i));
        }
    }

    static void bytes(Ships sea, int d, int... values) {
        row(sea, d, BYTES, values);
    }

    static void row(Ships sea, int d, int sort, int... values) {
        sea.row(d, sort, values.length);
        for (int i = 0; i < values.length; i++) {
            sea.put(d, i, values[i]);
        }
    }

    /** What element answers; -77 for IllegalArgumentException, -78 for IllegalStateException. */
    static long element(Ships sea, int d, int i) {
        try {
            return sea.element(d, i);
        } catch (IllegalArgumentException refused) {
            return -77;
        } catch (IllegalStateException refused) {
            return -78;
        }
    }

    /** All that ship, man, sailed and count tell of the first so many ships and men. */
    static String picture(Ships sea, int ships, int men) {
        StringBuilder all = new StringBuilder();
        for (int what = 0; what < 5; what++) {
            all.append(sea.count(what)).append(' ');
            for (int ship = 0; ship < ships; ship++) {
                all.append(sea.ship(ship, what)).append(' ');
            }
        }
        for (int man = 0; man < men; man++) {
            for (int what = 0; what < 4; what++) {
                all.append(sea.man(man, what)).append(' ');
            }
            all.append(sea.sailed(man)).append(' ');
        }
        return all.toString();
    }

    static String repeated(String part, int times) {
        StringBuilder all = new StringBuilder();
        for (int i = 0; i < times; i++) {
            all.append(part);
        }
        return all.toString();
    }
}
