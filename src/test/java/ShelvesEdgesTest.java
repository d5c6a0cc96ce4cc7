/** Promises 27 to 33, and the terms of shelves: keep, row, put, element, copy, pay, toss. */
public final class ShelvesEdgesTest {
    private static final int MIN = Integer.MIN_VALUE;
    private static final int MAX = Integer.MAX_VALUE;
    private static final int[] NO_SHELVES = {-1, 8, MIN, MAX};
    /** What Sea.element tells of the two exceptions. */
    private static final long ARGUMENT = -77;
    private static final long STATE = -78;
    private static final String ROWS = "A ROW has a SORT (0 bytes, 1 shorts, 2 ints) and 0 .. 100 elements, 0 at first;";

    public static void main(String[] args) {
        Edges edges = new Edges("ShelvesEdgesTest");
        list(edges);
        edges.run();
    }

    static void list(Edges edges) {
        shelves(edges);
        keep(edges);
        rowsOfTerms(edges);
        row(edges);
        put(edges);
        refusalsOfPut(edges);
        element(edges);
        copy(edges);
        placesOfCopy(edges);
        refusalsOfCopy(edges);
        pay(edges);
        toss(edges);
        refusalsOfToss(edges);
    }

    private static void shelves(Edges edges) {
        String sentence = "SHELVES 0 .. 7 each hold nothing (at first), a CAPTAIN, a ROW.";
        edges.terms(27, sentence, "nothing at first", is -> {
            Ships sea = new Ships();
            for (int d = 0; d < 8; d++) {
                is.due("pay(" + d + ")", sea.pay(d), -11);
                is.due("put(" + d + ", 0, 0)", sea.put(d, 0, 0), -11);
            }
        });
        edges.terms(27, sentence, "eight of them, each by itself", is -> {
            Ships sea = new Ships();
            for (int d = 0; d < 8; d++) {
                is.due("keep(" + d + ", ..)", sea.keep(d, 1, 1, d), 0);
            }
            for (int d = 0; d < 8; d++) {
                is.due("pay(" + d + ")", sea.pay(d), 6 + d);
            }
            is.due("keep(8, ..)", sea.keep(8, 1, 1, 0), -1);
            is.due("keep(-1, ..)", sea.keep(-1, 1, 1, 0), -1);
        });
        edges.terms(28, sentence, "rows on all eight, each by itself", is -> {
            Ships sea = new Ships();
            for (int d = 0; d < 8; d++) {
                is.due("row(" + d + ", ..)", sea.row(d, Sea.INTS, 1), 0);
                sea.put(d, 0, 100 + d);
            }
            for (int d = 0; d < 8; d++) {
                is.due("element(" + d + ", 0)", Sea.element(sea, d, 0), 100 + d);
            }
        });
    }

    private static void keep(Edges edges) {
        String sentence = "SHELF d gets: what = 0 nothing (the others do not matter); 1 a CAPTAIN of KIND k with a FIGURE: 0. -1.";
        edges.of(27, sentence, "nothing, the others do not matter", is -> {
            Ships sea = new Ships();
            sea.keep(0, 1, 0, 0);
            is.due("in place of a captain", sea.keep(0, 0, MIN, MAX), 0);
            is.due("pay(0)", sea.pay(0), -11);
            sea.row(0, 0, 1);
            is.due("in place of a row", sea.keep(0, 0, 8, 10), 0);
            is.due("put(0, 0, 0)", sea.put(0, 0, 0), -11);
            is.due("in place of nothing", sea.keep(0, 0, -1, -1), 0);
            is.due("toss(0)", sea.toss(0), -11);
        });
        edges.of(27, sentence, "a captain in place of a captain, of a row", is -> {
            Ships sea = new Ships();
            sea.keep(0, 1, 0, 0);
            is.due("keep(0, 1, 7, 9)", sea.keep(0, 1, 7, 9), 0);
            is.due("pay(0)", sea.pay(0), 19);
            sea.row(0, 0, 3);
            is.due("keep(0, 1, 0, 0)", sea.keep(0, 1, 0, 0), 0);
            is.due("pay(0), behind a row", sea.pay(0), 6);
            is.due("put(0, 0, 0)", sea.put(0, 0, 0), -12);
        });
        edges.of(27, sentence, "-1: no such shelf, for nothing, too", is -> {
            Ships sea = new Ships();
            for (int d : NO_SHELVES) {
                is.due("keep(" + d + ", 1, ..)", sea.keep(d, 1, 0, 0), -1);
                is.due("keep(" + d + ", 0, ..)", sea.keep(d, 0, 0, 0), -1);
            }
        });
        edges.of(27, sentence, "-1: no such what, kind, figure", is -> {
            Ships sea = new Ships();
            for (int number : new int[] {-1, 10, MIN, MAX}) {
                is.due("what " + number, sea.keep(0, number, 0, 0), -1);
                is.due("kind " + number, sea.keep(0, 1, number, 0), -1);
                is.due("figure " + number, sea.keep(0, 1, 0, number), -1);
            }
            is.due("what 2", sea.keep(0, 2, 0, 0), -1);
            is.due("kind 8", sea.keep(0, 1, 8, 0), -1);
            is.due("pay(0)", sea.pay(0), -11);
        });
    }

    private static void rowsOfTerms(Edges edges) {
        edges.terms(28, ROWS, "three sorts", is -> {
            Ships sea = new Ships();
            for (int sort = 0; sort < 3; sort++) {
                is.due("sort " + sort, sea.row(0, sort, 1), 0);
            }
            is.due("sort 3", sea.row(0, 3, 1), -1);
            is.due("sort -1", sea.row(0, -1, 1), -1);
        });
        edges.terms(28, ROWS, "0 and 100 elements of each sort", is -> {
            for (int sort = 0; sort < 3; sort++) {
                Ships sea = new Ships();
                is.due("none", sea.row(0, sort, 0), 0);
                is.due("the first of none", Sea.element(sea, 0, 0), STATE);
                is.due("100", sea.row(0, sort, 100), 0);
                is.due("put at 99", sea.put(0, 99, 7), 0);
                is.due("the last", Sea.element(sea, 0, 99), 7);
                is.due("none behind the last", Sea.element(sea, 0, 100), STATE);
                is.due("101", sea.row(0, sort, 101), -1);
            }
        });
        edges.terms(28, ROWS, "0 at first, whatever was there ahead", is -> {
            Ships sea = new Ships();
            sea.row(0, Sea.INTS, 100);
            for (int i = 0; i < 100; i++) {
                sea.put(0, i, -1 - i);
            }
            sea.row(0, Sea.BYTES, 1);
            sea.row(0, Sea.SHORTS, 100);
            for (int i = 0; i < 100; i++) {
                is.due("element " + i, Sea.element(sea, 0, i), 0);
            }
        });
        edges.terms(29, "what is put in keeps its lowest bits.", "bytes: 8", is -> kept(is, Sea.BYTES, new int[][] {
            {127, 127}, {128, -128}, {255, -1}, {256, 0}, {257, 1}, {-128, -128}, {-129, 127}, {MAX, -1}, {MIN, 0}, {-1, -1}}));
        edges.terms(29, "what is put in keeps its lowest bits.", "shorts: 16", is -> kept(is, Sea.SHORTS, new int[][] {
            {32767, 32767}, {32768, -32768}, {65535, -1}, {65536, 0}, {65537, 1}, {-32768, -32768}, {-32769, 32767}, {MAX, -1}, {MIN, 0}}));
        edges.terms(29, "what is put in keeps its lowest bits.", "ints: all", is -> kept(is, Sea.INTS, new int[][] {
            {MAX, MAX}, {MIN, MIN}, {-1, -1}, {65536, 65536}}));
    }

    private static void kept(Edges.Edge is, int sort, int[][] putAndDue) {
        Ships sea = new Ships();
        sea.row(0, sort, 3);
        for (int[] one : putAndDue) {
            is.due("put " + one[0], sea.put(0, 1, one[0]), 0);
            is.due("element of " + one[0], Sea.element(sea, 0, 1), one[1]);
            is.due("its neighbours", Sea.element(sea, 0, 0) + Sea.element(sea, 0, 2), 0);
        }
    }

    private static void row(Edges edges) {
        String sentence = "SHELF d gets a ROW of a SORT: 0. -1 (n above 100); -14.";
        edges.of(28, sentence, "in place of a captain, of a row, of nothing", is -> {
            Ships sea = new Ships();
            is.due("of nothing", sea.row(0, Sea.BYTES, 2), 0);
            sea.put(0, 1, 9);
            is.due("of a row", sea.row(0, Sea.BYTES, 2), 0);
            is.due("element 1", Sea.element(sea, 0, 1), 0);
            sea.keep(0, 1, 0, 0);
            is.due("of a captain", sea.row(0, Sea.BYTES, 2), 0);
            is.due("pay(0)", sea.pay(0), -12);
        });
        edges.of(28, sentence, "-1: n above 100", is -> {
            Ships sea = new Ships();
            is.due("100", sea.row(0, 0, 100), 0);
            is.due("101", sea.row(0, 0, 101), -1);
            is.due("MAX", sea.row(0, 0, MAX), -1);
            is.due("the row of 100 stays", Sea.element(sea, 0, 99), 0);
        });
        edges.of(28, sentence, "-1: no such shelf, no such sort", is -> {
            Ships sea = new Ships();
            for (int d : NO_SHELVES) {
                is.due("shelf " + d, sea.row(d, 0, 1), -1);
                is.due("sort " + d, sea.row(0, d, 1), -1);
            }
            is.due("sort 3", sea.row(0, 3, 1), -1);
        });
        edges.of(28, sentence, "-14: n below 0", is -> {
            Ships sea = new Ships();
            is.due("-1", sea.row(0, 0, -1), -14);
            is.due("MIN", sea.row(0, 2, MIN), -14);
            is.due("nothing is there", sea.put(0, 0, 0), -11);
        });
        edges.of(28, sentence, "-1 ahead of -14", is -> {
            Ships sea = new Ships();
            is.due("no such shelf", sea.row(8, 0, -1), -1);
            is.due("no such sort", sea.row(0, 3, -1), -1);
        });
    }

    private static void put(Edges edges) {
        String sentence = "Element i of the ROW becomes v: 0.";
        edges.of(29, sentence, "the first and the last, and no other", is -> {
            Ships sea = new Ships();
            Sea.row(sea, 0, Sea.INTS, 1, 2, 3);
            is.due("put(0, 0, 8)", sea.put(0, 0, 8), 0);
            is.due("put(0, 2, 9)", sea.put(0, 2, 9), 0);
            int[] due = {8, 2, 9};
            for (int i = 0; i < 3; i++) {
                is.due("element " + i, Sea.element(sea, 0, i), due[i]);
            }
        });
        edges.of(29, sentence, "again: the last one stays", is -> {
            Ships sea = new Ships();
            sea.row(0, Sea.BYTES, 1);
            sea.put(0, 0, 5);
            is.due("put(0, 0, 0)", sea.put(0, 0, 0), 0);
            is.due("element 0", Sea.element(sea, 0, 0), 0);
        });
    }

    private static void refusalsOfPut(Edges edges) {
        String sentence = "-1, -11, -12, -13.";
        edges.of(29, sentence, "-1: no such shelf, whatever the place", is -> {
            Ships sea = new Ships();
            for (int d : NO_SHELVES) {
                is.due("put(" + d + ", 0, 0)", sea.put(d, 0, 0), -1);
                is.due("put(" + d + ", -1, 0)", sea.put(d, -1, 0), -1);
            }
        });
        edges.of(29, sentence, "-11: nothing is held, whatever the place", is -> {
            Ships sea = new Ships();
            is.due("put(0, 0, 0)", sea.put(0, 0, 0), -11);
            is.due("put(0, -1, 0)", sea.put(0, -1, 0), -11);
        });
        edges.of(29, sentence, "-12: a captain, whatever the place", is -> {
            Ships sea = new Ships();
            sea.keep(0, 1, 0, 0);
            is.due("put(0, 0, 0)", sea.put(0, 0, 0), -12);
            is.due("put(0, 100, 0)", sea.put(0, 100, 0), -12);
        });
        edges.of(29, sentence, "-13: no such place", is -> {
            Ships sea = new Ships();
            sea.row(0, Sea.SHORTS, 3);
            for (int i : new int[] {-1, 3, 100, MIN, MAX}) {
                is.due("put(0, " + i + ", 1)", sea.put(0, i, 1), -13);
            }
            sea.row(0, Sea.SHORTS, 0);
            is.due("the first of an empty row", sea.put(0, 0, 1), -13);
        });
    }

    private static void element(Edges edges) {
        edges.of(30, "Element i of the ROW.", "the first and the last of 100", is -> {
            Ships sea = new Ships();
            sea.row(0, Sea.INTS, 100);
            sea.put(0, 0, MIN);
            sea.put(0, 99, MAX);
            is.due("element(0, 0)", Sea.element(sea, 0, 0), MIN);
            is.due("element(0, 99)", Sea.element(sea, 0, 99), MAX);
            is.due("element(0, 1)", Sea.element(sea, 0, 1), 0);
        });
        String sentence = "IllegalArgumentException: no such SHELF; IllegalStateException: no ROW, no such place.";
        edges.of(30, sentence, "no such shelf, whatever the place", is -> {
            Ships sea = new Ships();
            for (int d : NO_SHELVES) {
                is.due("element(" + d + ", 0)", Sea.element(sea, d, 0), ARGUMENT);
                is.due("element(" + d + ", -1)", Sea.element(sea, d, -1), ARGUMENT);
            }
        });
        edges.of(30, sentence, "no row: nothing, a captain", is -> {
            Ships sea = new Ships();
            is.due("nothing", Sea.element(sea, 0, 0), STATE);
            sea.keep(0, 1, 7, 9);
            is.due("a captain", Sea.element(sea, 0, 0), STATE);
            sea.row(0, 0, 1);
            sea.keep(0, 0, 0, 0);
            is.due("nothing any more", Sea.element(sea, 0, 0), STATE);
        });
        edges.of(30, sentence, "no such place", is -> {
            Ships sea = new Ships();
            sea.row(0, Sea.BYTES, 2);
            for (int i : new int[] {-1, 2, 99, 100, MIN, MAX}) {
                is.due("element(0, " + i + ")", Sea.element(sea, 0, i), STATE);
            }
            sea.row(0, Sea.BYTES, 0);
            is.due("the first of an empty row", Sea.element(sea, 0, 0), STATE);
        });
    }

    private static final String COPY = "n elements of the ROW in SHELF d from i on come to that in SHELF e from j on: n.";

    private static void elements(Edges.Edge is, Ships sea, int d, int... due) {
        for (int i = 0; i < due.length; i++) {
            is.due("element(" + d + ", " + i + ")", Sea.element(sea, d, i), due[i]);
        }
    }

    private static void copy(Edges edges) {
        edges.of(31, COPY, "some of them, and no more", is -> {
            Ships sea = new Ships();
            Sea.row(sea, 0, Sea.SHORTS, 1, 2, 3, 4);
            Sea.row(sea, 1, Sea.SHORTS, 5, 6, 7, 8, 9);
            is.due("copy(0, 1, 1, 2, 2)", sea.copy(0, 1, 1, 2, 2), 2);
            elements(is, sea, 0, 1, 2, 3, 4);
            elements(is, sea, 1, 5, 6, 2, 3, 9);
        });
        edges.of(31, COPY, "all of 100", is -> {
            Ships sea = new Ships();
            sea.row(0, Sea.INTS, 100);
            sea.put(0, 0, MIN);
            sea.put(0, 99, MAX);
            sea.row(7, Sea.INTS, 100);
            is.due("copy(0, 0, 7, 0, 100)", sea.copy(0, 0, 7, 0, 100), 100);
            is.due("element(7, 0)", Sea.element(sea, 7, 0), MIN);
            is.due("element(7, 99)", Sea.element(sea, 7, 99), MAX);
        });
        edges.of(31, COPY, "within one row, as they were ahead of it", is -> {
            Ships sea = new Ships();
            Sea.row(sea, 0, Sea.BYTES, 1, 2, 3, 4, 5);
            is.due("on", sea.copy(0, 0, 0, 1, 4), 4);
            elements(is, sea, 0, 1, 1, 2, 3, 4);
            is.due("back", sea.copy(0, 2, 0, 0, 3), 3);
            elements(is, sea, 0, 2, 3, 4, 3, 4);
            is.due("to where they are", sea.copy(0, 0, 0, 0, 5), 5);
            elements(is, sea, 0, 2, 3, 4, 3, 4);
        });
        edges.of(31, COPY, "what comes later to the first row does not come to the other", is -> {
            Ships sea = new Ships();
            Sea.row(sea, 0, Sea.BYTES, 1);
            sea.row(1, Sea.BYTES, 1);
            sea.copy(0, 0, 1, 0, 1);
            sea.put(0, 0, 2);
            is.due("element(1, 0)", Sea.element(sea, 1, 0), 1);
        });
    }

    private static void placesOfCopy(Edges edges) {
        String sentence = "-13 (n below 0, too; n 0 at the end is well).";
        edges.of(31, sentence, "n below 0", is -> {
            Ships sea = twoRows();
            is.due("-1", sea.copy(0, 1, 1, 1, -1), -13);
            is.due("MIN", sea.copy(0, 1, 1, 1, MIN), -13);
        });
        edges.of(31, sentence, "n 0 at the end is well, behind the end it is not", is -> {
            Ships sea = twoRows();
            is.due("at both ends", sea.copy(0, 4, 1, 2, 0), 0);
            is.due("behind the first's end", sea.copy(0, 5, 1, 0, 0), -13);
            is.due("behind the other's end", sea.copy(0, 0, 1, 3, 0), -13);
            is.due("ahead of the first", sea.copy(0, -1, 1, 0, 0), -13);
            is.due("ahead of the other", sea.copy(0, 0, 1, -1, 0), -13);
            sea.row(0, Sea.SHORTS, 0);
            sea.row(1, Sea.SHORTS, 0);
            is.due("empty rows", sea.copy(0, 0, 1, 0, 0), 0);
            is.due("one of empty rows", sea.copy(0, 0, 1, 0, 1), -13);
        });
        edges.of(31, sentence, "more than are there, more than go in", is -> {
            Ships sea = twoRows();
            is.due("just as many as are there", sea.copy(0, 2, 1, 0, 2), 2);
            is.due("one more than are there", sea.copy(0, 3, 1, 0, 2), -13);
            is.due("one more than go in", sea.copy(0, 0, 1, 1, 2), -13);
            is.due("one at the end", sea.copy(0, 4, 1, 0, 1), -13);
            is.due("one to the end", sea.copy(0, 0, 1, 2, 1), -13);
        });
        edges.of(31, sentence, "sums that go round", is -> {
            Ships sea = twoRows();
            is.due("n MAX", sea.copy(0, 1, 1, 1, MAX), -13);
            is.due("i MAX", sea.copy(0, MAX, 1, 0, 1), -13);
            is.due("j MAX", sea.copy(0, 0, 1, MAX, 1), -13);
            is.due("all MAX", sea.copy(0, MAX, 1, MAX, MAX), -13);
            is.due("i MIN", sea.copy(0, MIN, 1, 0, 1), -13);
            is.due("j MIN", sea.copy(0, 0, 1, MIN, 1), -13);
            elements(is, sea, 1, 8, 9);
        });
    }

    /** Shorts: four on shelf 0, two on shelf 1. */
    private static Ships twoRows() {
        Ships sea = new Ships();
        Sea.row(sea, 0, Sea.SHORTS, 1, 2, 3, 4);
        Sea.row(sea, 1, Sea.SHORTS, 8, 9);
        return sea;
    }

    private static void refusalsOfCopy(Edges edges) {
        String sentence = "-1, -11 (either), -12 (no ROWS of one SORT), -13";
        edges.of(31, sentence, "-1: no such shelf, either", is -> {
            Ships sea = twoRows();
            for (int d : NO_SHELVES) {
                is.due("from " + d, sea.copy(d, 0, 0, 0, 1), -1);
                is.due("to " + d, sea.copy(0, 0, d, 0, 1), -1);
                is.due("to " + d + ", from nothing", sea.copy(5, 0, d, 0, -1), -1);
            }
        });
        edges.of(31, sentence, "-11: nothing is held, either", is -> {
            Ships sea = twoRows();
            is.due("from nothing", sea.copy(5, 0, 0, 0, 1), -11);
            is.due("to nothing", sea.copy(0, 0, 5, 0, 1), -11);
            is.due("from nothing to nothing", sea.copy(5, 0, 6, 0, 0), -11);
        });
        edges.of(31, sentence, "-11 ahead of -12, either", is -> {
            Ships sea = twoRows();
            sea.keep(3, 1, 0, 0);
            is.due("from a captain to nothing", sea.copy(3, 0, 5, 0, 1), -11);
            is.due("from nothing to a captain", sea.copy(5, 0, 3, 0, 1), -11);
        });
        edges.of(31, sentence, "-12: captains, rows of two sorts", is -> {
            Ships sea = twoRows();
            sea.keep(3, 1, 0, 0);
            sea.row(4, Sea.BYTES, 4);
            sea.row(5, Sea.INTS, 4);
            is.due("from a captain", sea.copy(3, 0, 0, 0, 1), -12);
            is.due("to a captain", sea.copy(0, 0, 3, 0, 1), -12);
            is.due("from shorts to bytes", sea.copy(0, 0, 4, 0, 1), -12);
            is.due("from bytes to shorts", sea.copy(4, 0, 0, 0, 1), -12);
            is.due("from ints to bytes", sea.copy(5, 0, 4, 0, 0), -12);
            is.due("from shorts to ints", sea.copy(0, 0, 5, 0, 0), -12);
        });
        edges.of(31, sentence, "-12 ahead of -13", is -> {
            Ships sea = twoRows();
            sea.row(4, Sea.BYTES, 4);
            is.due("n -1", sea.copy(0, 0, 4, 0, -1), -12);
            is.due("i 5", sea.copy(0, 5, 4, 0, 1), -12);
        });
    }

    private static void pay(Edges edges) {
        edges.of(32, "PAY of the CAPTAIN on SHELF d.", "the first and the last shelf, a pay below 0", is -> {
            Ships sea = new Ships();
            sea.keep(0, 1, 4, 9);
            sea.keep(7, 1, 6, 9);
            is.due("pay(0)", sea.pay(0), 60);
            is.due("pay(7)", sea.pay(7), -3);
        });
        String sentence = "-1, -11, -12 (a ROW).";
        edges.of(32, sentence, "-1: no such shelf", is -> {
            Ships sea = new Ships();
            for (int d : NO_SHELVES) {
                is.due("pay(" + d + ")", sea.pay(d), -1);
            }
        });
        edges.of(32, sentence, "-11: nothing is held", is -> is.due("pay(0)", new Ships().pay(0), -11));
        edges.of(32, sentence, "-12: a row of any sort, an empty one, too", is -> {
            Ships sea = new Ships();
            for (int sort = 0; sort < 3; sort++) {
                sea.row(0, sort, sort);
                is.due("sort " + sort, sea.pay(0), -12);
            }
        });
        edges.terms(32, "of a KIND (or SORT) \"n more\", \"n less\" without more words is: than what the one it is under has; "
            + "\"a and b\" of two numbers is their sum;", "NEW under CAPTAIN, BEST under WANT, KEEP under OLD", is -> {
            Ships sea = new Ships();
            int[] kinds = {2, 5, 7};
            int[] due = {5, 21, 12};
            for (int i = 0; i < 3; i++) {
                sea.keep(0, 1, kinds[i], 2);
                is.due("pay of kind " + kinds[i] + ", figure 2", sea.pay(0), due[i]);
            }
        });
    }

    private static void toss(Edges edges) {
        String sentence = "The FAILURE of the CAPTAIN on SHELF d is thrown, and caught: its FIGURE; of BEST ones 100 more; "
            + "of KEEP ones 200 plus their PAY, in place of all that (FIGURE, too).";
        edges.of(33, sentence, "its figure: 1 and 9", is -> {
            for (int kind : new int[] {0, 1, 2, 3, 4}) {
                is.due("kind " + kind + ", figure 1", tossed(kind, 1), 1);
                is.due("kind " + kind + ", figure 9", tossed(kind, 9), 9);
            }
        });
        edges.of(33, sentence, "of BEST ones 100 more", is -> {
            is.due("figure 1", tossed(5, 1), 101);
            is.due("figure 9", tossed(5, 9), 109);
        });
        edges.of(33, sentence, "of KEEP ones 200 plus their pay, without the figure beside", is -> {
            is.due("figure 1, pay 11", tossed(7, 1), 211);
            is.due("figure 9, pay 19", tossed(7, 9), 219);
        });
        edges.of(33, sentence, "of each shelf by itself", is -> {
            Ships sea = new Ships();
            for (int d = 0; d < 8; d++) {
                sea.keep(d, 1, 1, d + 1);
            }
            for (int d = 0; d < 8; d++) {
                is.due("toss(" + d + ")", sea.toss(d), d + 1);
            }
        });
        edges.of(33, sentence, "he stays, and is tossed again", is -> {
            Ships sea = new Ships();
            sea.keep(0, 1, 5, 3);
            is.due("toss(0)", sea.toss(0), 103);
            is.due("toss(0), again", sea.toss(0), 103);
            is.due("pay(0)", sea.pay(0), 27);
        });
    }

    private static int tossed(int kind, int figure) {
        Ships sea = new Ships();
        sea.keep(0, 1, kind, figure);
        return sea.toss(0);
    }

    private static void refusalsOfToss(Edges edges) {
        String sentence = "-1, -11, -12 (a ROW); -15: TOLD ones, and any with FIGURE 0 (KEEP ones, too), have none.";
        edges.of(33, sentence, "-1: no such shelf", is -> {
            Ships sea = new Ships();
            for (int d : NO_SHELVES) {
                is.due("toss(" + d + ")", sea.toss(d), -1);
            }
        });
        edges.of(33, sentence, "-11: nothing is held", is -> is.due("toss(0)", new Ships().toss(0), -11));
        edges.of(33, sentence, "-12: a row of any sort, an empty one, too", is -> {
            Ships sea = new Ships();
            for (int sort = 0; sort < 3; sort++) {
                sea.row(0, sort, sort);
                is.due("sort " + sort, sea.toss(0), -12);
            }
        });
        edges.of(33, sentence, "-15: TOLD ones", is -> {
            for (int figure = 0; figure < 10; figure++) {
                is.due("figure " + figure, tossed(6, figure), -15);
            }
        });
        edges.of(33, sentence, "-15: any with figure 0, KEEP ones, too", is -> {
            for (int kind = 0; kind < 8; kind++) {
                is.due("kind " + kind, tossed(kind, 0), -15);
            }
        });
    }
}
