/** Promises 27 to 33: keep, row, put, element, copy, pay, toss. */
public final class ShelvesTest {
    private static final Check CHECK = new Check("ShelvesTest");
    private static final int MIN = Integer.MIN_VALUE;
    private static final int MAX = Integer.MAX_VALUE;

    public static void main(String[] args) {
        keep();
        row();
        put();
        element();
        copy();
        copyWithinOneRow();
        pay();
        toss();
        CHECK.end();
    }

    private static void keep() {
        Ships sea = new Ships();
        CHECK.due("a captain", sea.keep(7, 1, 7, 9), 0);
        CHECK.due("he is there", sea.pay(7), 19);
        CHECK.due("kind 8", sea.keep(7, 1, 8, 0), -1);
        CHECK.due("kind -1", sea.keep(7, 1, -1, 0), -1);
        CHECK.due("figure 10", sea.keep(7, 1, 0, 10), -1);
        CHECK.due("figure -1", sea.keep(7, 1, 0, -1), -1);
        CHECK.due("what 2", sea.keep(7, 2, 0, 0), -1);
        CHECK.due("what -1", sea.keep(7, -1, 0, 0), -1);
        CHECK.due("shelf 8", sea.keep(8, 1, 0, 0), -1);
        CHECK.due("shelf -1", sea.keep(-1, 0, 0, 0), -1);
        CHECK.due("refused calls change nothing", sea.pay(7), 19);
        CHECK.due("nothing, the others do not matter", sea.keep(7, 0, MIN, MAX), 0);
        CHECK.due("nothing is there", sea.pay(7), -11);
        sea.row(7, 2, 3);
        CHECK.due("in place of a row", sea.keep(7, 1, 0, 3), 0);
        CHECK.due("the row is gone", sea.put(7, 0, 1), -12);
        sea.row(7, 2, 3);
        CHECK.due("nothing in place of a row", sea.keep(7, 0, 0, 0), 0);
        CHECK.due("the row is gone, too", sea.put(7, 0, 1), -11);
    }

    private static void row() {
        Ships sea = new Ships();
        for (int sort = 0; sort < 3; sort++) {
            CHECK.due("100 of sort " + sort, sea.row(sort, sort, 100), 0);
            CHECK.due("0 of sort " + sort, sea.row(sort + 3, sort, 0), 0);
            CHECK.due("the last", Sea.element(sea, sort, 99), 0);
            CHECK.due("none", Sea.element(sea, sort + 3, 0), -78);
        }
        CHECK.due("101", sea.row(7, 0, 101), -1);
        CHECK.due("MAX", sea.row(7, 0, MAX), -1);
        CHECK.due("-1", sea.row(7, 0, -1), -14);
        CHECK.due("MIN", sea.row(7, 0, MIN), -14);
        CHECK.due("sort 3, -1", sea.row(7, 3, -1), -1);
        CHECK.due("sort -1", sea.row(7, -1, 1), -1);
        CHECK.due("shelf 8, -1", sea.row(8, 0, -1), -1);
        CHECK.due("shelf -1", sea.row(-1, 0, 1), -1);
        CHECK.due("nothing is on it still", sea.put(7, 0, 0), -11);
        Sea.row(sea, 7, Sea.INTS, 5, 6, 7);
        CHECK.due("a refused row", sea.row(7, 2, 101), -1);
        CHECK.due("leaves the one that is there", Sea.element(sea, 7, 1), 6);
        CHECK.due("a new one", sea.row(7, 2, 3), 0);
        for (int i = 0; i < 3; i++) {
            CHECK.due("is of zeros", Sea.element(sea, 7, i), 0);
        }
        Sea.row(sea, 7, Sea.INTS, 5, 6, 7);
        sea.row(7, 0, 0);
        sea.row(7, 1, 3);
        CHECK.due("what a shorter one left out does not come back", Sea.element(sea, 7, 2), 0);
        sea.keep(7, 1, 0, 0);
        CHECK.due("in place of a captain", sea.row(7, 0, 1), 0);
        CHECK.due("who is gone", sea.pay(7), -12);
    }

    private static void put() {
        Ships sea = new Ships();
        int[] values = {0, 1, -1, 127, 128, 255, 256, -128, -129, 32767, 32768, 65535, 65536, -32769, MAX, MIN};
        for (int value : values) {
            for (int sort = 0; sort < 3; sort++) {
                sea.row(sort, sort, 2);
                CHECK.due("put " + value, sea.put(sort, 1, value), 0);
                long due = sort == 0 ? (byte) value : sort == 1 ? (short) value : value;
                CHECK.due("put " + value + " in sort " + sort, Sea.element(sea, sort, 1), due);
                CHECK.due("its neighbour", Sea.element(sea, sort, 0), 0);
            }
        }
        CHECK.due("place 2", sea.put(0, 2, 1), -13);
        CHECK.due("place -1", sea.put(0, -1, 1), -13);
        CHECK.due("place MAX", sea.put(0, MAX, 1), -13);
        CHECK.due("place MIN", sea.put(0, MIN, 1), -13);
        CHECK.due("shelf 8", sea.put(8, 0, 1), -1);
        CHECK.due("shelf -1", sea.put(-1, -1, 1), -1);
        CHECK.due("nothing", sea.put(5, -1, 1), -11);
        sea.keep(5, 1, 0, 0);
        CHECK.due("a captain", sea.put(5, -1, 1), -12);
    }

    private static void element() {
        Ships sea = new Ships();
        CHECK.due("shelf -1", Sea.element(sea, -1, 0), -77);
        CHECK.due("shelf 8", Sea.element(sea, 8, -1), -77);
        CHECK.due("nothing", Sea.element(sea, 0, 0), -78);
        sea.keep(0, 1, 0, 1);
        CHECK.due("a captain", Sea.element(sea, 0, 0), -78);
        Sea.row(sea, 0, Sea.INTS, 4, MIN);
        CHECK.due("place 0", Sea.element(sea, 0, 0), 4);
        CHECK.due("place 1", Sea.element(sea, 0, 1), MIN);
        CHECK.due("place 2", Sea.element(sea, 0, 2), -78);
        CHECK.due("place -1", Sea.element(sea, 0, -1), -78);
        CHECK.due("place MAX", Sea.element(sea, 0, MAX), -78);
    }

    private static void copy() {
        Ships sea = new Ships();
        Sea.row(sea, 0, Sea.SHORTS, 1, 2, 3, 4);
        Sea.row(sea, 1, Sea.SHORTS, 9, 8);
        CHECK.due("two", sea.copy(0, 1, 1, 0, 2), 2);
        CHECK.due("the first", Sea.element(sea, 1, 0), 2);
        CHECK.due("the second", Sea.element(sea, 1, 1), 3);
        CHECK.due("they stay", Sea.element(sea, 0, 1), 2);
        CHECK.due("three do not go in", sea.copy(0, 1, 1, 0, 3), -13);
        CHECK.due("nor are they there", sea.copy(0, 2, 1, 0, 3), -13);
        CHECK.due("none at both ends", sea.copy(0, 4, 1, 2, 0), 0);
        CHECK.due("none behind the end", sea.copy(0, 5, 1, 0, 0), -13);
        CHECK.due("none behind the other end", sea.copy(0, 0, 1, 3, 0), -13);
        CHECK.due("one at the end", sea.copy(0, 4, 1, 0, 1), -13);
        CHECK.due("one to the end", sea.copy(0, 0, 1, 2, 1), -13);
        CHECK.due("-1", sea.copy(0, 1, 1, 1, -1), -13);
        CHECK.due("MIN", sea.copy(0, 1, 1, 1, MIN), -13);
        CHECK.due("MAX", sea.copy(0, 1, 1, 1, MAX), -13);
        CHECK.due("from MAX", sea.copy(0, MAX, 1, 1, MAX), -13);
        CHECK.due("from -1", sea.copy(0, -1, 1, 0, 1), -13);
        CHECK.due("to -1", sea.copy(0, 0, 1, -1, 1), -13);
        CHECK.due("to MIN", sea.copy(0, 0, 1, MIN, 1), -13);
        CHECK.due("refused ones change nothing", Sea.element(sea, 1, 0), 2);
        refusalsOfCopy(sea);
    }

    private static void refusalsOfCopy(Ships sea) {
        CHECK.due("shelf 8", sea.copy(8, 0, 2, 0, 1), -1);
        CHECK.due("shelf -1", sea.copy(0, 0, -1, 0, 1), -1);
        sea.row(2, 0, 4);
        sea.keep(3, 1, 0, 0);
        CHECK.due("shorts to bytes", sea.copy(0, 0, 2, 0, -1), -12);
        CHECK.due("bytes to shorts", sea.copy(2, 0, 0, 0, 1), -12);
        CHECK.due("to a captain", sea.copy(0, 0, 3, 0, -1), -12);
        CHECK.due("from a captain", sea.copy(3, 0, 0, 0, 1), -12);
        CHECK.due("between captains", sea.copy(3, 0, 3, 0, 0), -12);
        CHECK.due("to nothing", sea.copy(0, 0, 4, 0, -1), -11);
        CHECK.due("from nothing", sea.copy(4, 0, 0, 0, 1), -11);
        CHECK.due("from a captain to nothing", sea.copy(3, 0, 4, 0, 1), -11);
        CHECK.due("from nothing to a captain", sea.copy(4, 0, 3, 0, 1), -11);
    }

    private static void copyWithinOneRow() {
        Ships sea = new Ships();
        Sea.row(sea, 0, Sea.INTS, 1, 2, 3, 4, 5);
        CHECK.due("ahead", sea.copy(0, 0, 0, 1, 4), 4);
        int[] ahead = {1, 1, 2, 3, 4};
        for (int i = 0; i < 5; i++) {
            CHECK.due("ahead, " + i, Sea.element(sea, 0, i), ahead[i]);
        }
        CHECK.due("back", sea.copy(0, 2, 0, 0, 3), 3);
        int[] back = {2, 3, 4, 3, 4};
        for (int i = 0; i < 5; i++) {
            CHECK.due("back, " + i, Sea.element(sea, 0, i), back[i]);
        }
    }

    private static void pay() {
        for (int figure = 0; figure < 10; figure++) {
            int[] due = {6, 6 + figure, 5, 10, 6 * (figure + 1), 6 * (figure + 1) + 3, 6 - figure, 10 + figure};
            for (int kind = 0; kind < 8; kind++) {
                Ships sea = new Ships();
                sea.keep(4, 1, kind, figure);
                CHECK.due("pay of kind " + kind + ", figure " + figure, sea.pay(4), due[kind]);
            }
        }
        refusalsOfOneCaptain(true);
    }

    private static void toss() {
        for (int figure = 0; figure < 10; figure++) {
            int[] due = {figure, figure, figure, figure, figure, 100 + figure, -15, 210 + figure};
            for (int kind = 0; kind < 8; kind++) {
                Ships sea = new Ships();
                sea.keep(4, 1, kind, figure);
                CHECK.due("toss of kind " + kind + ", figure " + figure, sea.toss(4), figure == 0 ? -15 : due[kind]);
                CHECK.due("he stays", sea.toss(4), figure == 0 ? -15 : due[kind]);
            }
        }
        refusalsOfOneCaptain(false);
    }

    private static void refusalsOfOneCaptain(boolean pay) {
        Ships sea = new Ships();
        sea.row(1, 0, 0);
        int[] shelves = {-1, 8, MIN, 0, 1};
        int[] due = {-1, -1, -1, -11, -12};
        for (int i = 0; i < shelves.length; i++) {
            int got = pay ? sea.pay(shelves[i]) : sea.toss(shelves[i]);
            CHECK.due((pay ? "pay " : "toss ") + shelves[i], got, due[i]);
        }
    }
}
