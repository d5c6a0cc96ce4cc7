/** Rows of meetings, by each of the eight calls that read one. */
public final class RowsEdgesTest {
    private static final long FAR = 1000000000L;
    private static final String SENTENCE = "A ROW of MEETINGS is of bytes, by twos two unlike SHIPS, 0 .. 12 MEETINGS: "
        + "-1, -11, -12 (no ROW of bytes), -13 (not as told);";
    private static final String IDLE = "one of a SHIP without MEN does nothing (it counts as a place of the ROW).";
    /** Ship 0 with men 0 and 1, ship 1 with man 2, ship 2 with nobody. */
    private static final String THREE = "s00;s00;s00;m000;m000;m100;";

    /** A call that reads the row of a shelf, by men 0 and 1 and ship 0. */
    private interface Reader {
        long of(Ships sea, int d);
    }

    public static void main(String[] args) {
        Edges edges = new Edges("RowsEdgesTest");
        list(edges);
        edges.run();
    }

    static void list(Edges edges) {
        // what each answers of no meetings, of one that does nothing, and of twelve of ships 0 and 1
        reader(edges, 7, "-1, and of the ROW.", 0, 0, 0, (sea, d) -> sea.where(0, d));
        reader(edges, 8, "-1, and of the ROW.", 1, 1, 3, (sea, d) -> sea.can(0, d));
        reader(edges, 9, "-1, and of the ROW.", 0, 0, 0, (sea, d) -> sea.soonest(0, 0, d));
        reader(edges, 10, "and of the ROW, 1000000000 less.", 1, 1, likelyBehindEight(), RowsEdgesTest::likely);
        reader(edges, 18, "-1, and of the ROW.", 3, 3, 7, (sea, d) -> sea.letter(0, d));
        reader(edges, 19, "-1 (of all four), and of the ROW.", 0, 0, 6, (sea, d) -> sea.law(0, d, 0, 0));
        reader(edges, 20, "and of the ROW (its -1 ahead of -3).", 0, 1, 0, (sea, d) -> sea.together(0, 1, d));
        reader(edges, 21, "-1, and of the ROW.", 0, 0, 12, (sea, d) -> sea.moved(0, d));
        idle(edges);
        stays(edges);
    }

    /** A refusal is told as that of the other calls, and the parts as one number. */
    private static long likely(Ships sea, int d) {
        long above = sea.likely(0, 0, d, 0);
        return above < 0 ? above + FAR : 1000 * above + sea.likely(0, 0, d, 1) - 1000;
    }

    /**
     * Man 0 is one of two aboard ship 0, or the only one aboard ship 1: each meeting makes of a chance p
     * of ship 0 one of 1 - p/2; eight of them, from 1 on, 171/256.
     */
    private static long likelyBehindEight() {
        return 1000L * 171 + 256 - 1000;
    }

    private static void reader(Edges edges, int promise, String own, long ofNone, long ofIdle, long ofTwelve, Reader reader) {
        edges.terms(promise, SENTENCE, "none are well", is -> {
            Ships sea = Sea.of(THREE);
            sea.row(0, 0, 0);
            is.due("an empty row", reader.of(sea, 0), ofNone);
        });
        edges.terms(promise, SENTENCE, "twelve are well, thirteen are not", is -> {
            Ships sea = Sea.of(THREE);
            meetings(sea, 24);
            is.due("twelve", reader.of(sea, 0), ofTwelve);
            meetings(sea, 26);
            is.due("thirteen", reader.of(sea, 0), -13);
            meetings(sea, 100);
            is.due("fifty", reader.of(sea, 0), -13);
        });
        edges.terms(promise, SENTENCE, "not by twos", is -> {
            Ships sea = Sea.of(THREE);
            for (int size : new int[] {1, 3, 23, 25}) {
                meetings(sea, size);
                is.due("size " + size, reader.of(sea, 0), -13);
            }
        });
        edges.terms(promise, SENTENCE, "not of two unlike ships", is -> {
            Ships sea = Sea.of(THREE);
            notAsTold(is, sea, reader, 0, 0);
            notAsTold(is, sea, reader, 2, 2);
            notAsTold(is, sea, reader, 0, 1, 1, 1);
            notAsTold(is, sea, reader, 0, 3);
            notAsTold(is, sea, reader, 3, 0);
            notAsTold(is, sea, reader, -1, 0);
            notAsTold(is, sea, reader, 0, -1);
            notAsTold(is, sea, reader, 0, 1, 0, 127);
            notAsTold(is, sea, reader, 0, 1, -128, 0);
        });
        edges.terms(promise, SENTENCE, "the ships are those that are there now", is -> {
            Ships sea = Sea.of(THREE);
            Sea.bytes(sea, 0, 3, 2);
            is.due("no ship 3 yet", reader.of(sea, 0), -13);
            Sea.read(sea, "s00;");
            is.due("a ship 3, but no men there", reader.of(sea, 0), ofIdle);
        });
        edges.terms(promise, SENTENCE, "bytes keep their lowest bits", is -> {
            Ships sea = Sea.of(THREE);
            Sea.bytes(sea, 0, 256 + 2, 512);
            is.due("ships 2 and 0", reader.of(sea, 0), ofIdle);
        });
        ofThatShelf(edges, promise, ofNone, ofTwelve, reader);
        refusals(edges, promise, own, reader);
    }

    private static void ofThatShelf(Edges edges, int promise, long ofNone, long ofTwelve, Reader reader) {
        edges.terms(promise, "SHELVES 0 .. 7 each hold nothing (at first), a CAPTAIN, a ROW.", "the row of that shelf, whatever others hold", is -> {
            for (int d = 1; d < 8; d++) {
                Ships sea = Sea.of(THREE);
                meetings(sea, 24);
                sea.row(d, Sea.BYTES, 0);
                is.due("none on shelf " + d + ", twelve on shelf 0", reader.of(sea, d), ofNone);
                sea.row(d, Sea.BYTES, 24);
                sea.copy(0, 0, d, 0, 24);
                sea.row(0, Sea.BYTES, 0);
                is.due("twelve on shelf " + d + ", none on shelf 0", reader.of(sea, d), ofTwelve);
                sea.keep(0, 0, 0, 0);
                is.due("twelve on shelf " + d + ", nothing on shelf 0", reader.of(sea, d), ofTwelve);
            }
        });
    }

    private static void refusals(Edges edges, int promise, String own, Reader reader) {
        edges.of(promise, own, "-1: no such shelf", is -> {
            Ships sea = Sea.of(THREE);
            is.due("shelf -1", reader.of(sea, -1), -1);
            is.due("shelf 8", reader.of(sea, 8), -1);
            is.due("shelf MIN", reader.of(sea, Integer.MIN_VALUE), -1);
            is.due("shelf MAX", reader.of(sea, Integer.MAX_VALUE), -1);
        });
        edges.of(promise, own, "-11: nothing is held", is -> {
            Ships sea = Sea.of(THREE);
            is.due("nothing yet", reader.of(sea, 0), -11);
            sea.row(0, 0, 0);
            sea.keep(0, 0, 0, 0);
            is.due("nothing any more", reader.of(sea, 0), -11);
        });
        edges.of(promise, own, "-12: a captain, shorts, ints, whatever they hold", is -> {
            Ships sea = Sea.of(THREE);
            sea.keep(0, 1, 0, 0);
            is.due("a captain", reader.of(sea, 0), -12);
            Sea.row(sea, 0, Sea.SHORTS, 0, 1);
            is.due("shorts", reader.of(sea, 0), -12);
            Sea.row(sea, 0, Sea.INTS, 0, 1);
            is.due("ints", reader.of(sea, 0), -12);
            Sea.row(sea, 0, Sea.SHORTS, 0);
            is.due("shorts that are not as told, too", reader.of(sea, 0), -12);
        });
        edges.of(promise, own, "-13: not as told", is -> {
            Ships sea = Sea.of(THREE);
            notAsTold(is, sea, reader, 0);
            notAsTold(is, sea, reader, 1, 1);
            notAsTold(is, sea, reader, 1, 5);
        });
    }

    private static void notAsTold(Edges.Edge is, Ships sea, Reader reader, int... row) {
        Sea.bytes(sea, 0, row);
        is.due(java.util.Arrays.toString(row), reader.of(sea, 0), -13);
    }

    /** A row of bytes on shelf 0: ships 0 and 1 in turn. */
    private static void meetings(Ships sea, int size) {
        sea.row(0, 0, size);
        for (int i = 1; i < size; i += 2) {
            sea.put(0, i, 1);
        }
    }

    private static void idle(Edges edges) {
        edges.terms(7, IDLE, "nobody comes to where nobody is", is -> {
            Ships sea = fleetAndRow(0, 2, 2, 1);
            is.due("where(0)", sea.where(0, 0), 0);
            is.due("where(2)", sea.where(2, 0), 1);
        });
        edges.terms(7, IDLE, "since is by the meetings that were", is -> {
            // behind x02 (nothing), x01 ship 0 has 1 since 0 and 2 since 1, and gives 2 as the newest
            Ships sea = Sea.of("s20;s00;s00;m000;m000;m100;");
            Sea.bytes(sea, 0, 0, 2, 0, 1, 0, 2, 0, 1);
            is.due("where(2)", sea.where(2, 0), 1);
            is.due("where(1)", sea.where(1, 0), 0);
        });
        edges.terms(8, IDLE, "nor can he be there", is -> {
            Ships sea = fleetAndRow(0, 2, 1, 2);
            is.due("can(0)", sea.can(0, 0), 1);
            is.due("can(2), who is alone", sea.can(2, 0), 2);
        });
        edges.terms(9, IDLE, "it is counted", is -> {
            Ships sea = fleetAndRow(0, 2, 2, 1, 0, 1);
            is.due("soonest(0, 1)", sea.soonest(0, 1, 0), 3);
            is.due("soonest(0, 2)", sea.soonest(0, 2, 0), -4);
        });
        edges.terms(10, IDLE, "it is one of the eight", is -> {
            Ships seventh = fleetAndRow(0, 2, 0, 2, 0, 2, 0, 2, 0, 2, 0, 2, 0, 2, 0, 1);
            is.due("the eighth is looked at, above", seventh.likely(0, 1, 0, 0), 1);
            is.due("the eighth is looked at, below", seventh.likely(0, 1, 0, 1), 2);
            Ships eighth = fleetAndRow(0, 2, 0, 2, 0, 2, 0, 2, 0, 2, 0, 2, 0, 2, 0, 2, 0, 1);
            is.due("the ninth is not, above", eighth.likely(0, 1, 0, 0), 0);
            is.due("the ninth is not, below", eighth.likely(0, 1, 0, 1), 1);
        });
        edges.terms(18, IDLE, "no letter goes by it", is -> {
            Ships sea = fleetAndRow(1, 2, 0, 2);
            is.due("letter(2)", sea.letter(2, 0), 4);
            is.due("letter(0)", sea.letter(0, 0), 3);
        });
        edges.terms(19, IDLE, "behind it, too, he is elsewhere", is -> {
            Ships sea = fleetAndRow(0, 2, 0, 1, 0, 2, 2, 1);
            is.due("law(0)", sea.law(0, 0, 0, 0), 3);
        });
        edges.terms(20, IDLE, "behind it, too, they are together", is -> {
            Ships sea = fleetAndRow(0, 2, 2, 1, 0, 1, 0, 2);
            is.due("together(0, 1)", sea.together(0, 1, 0), 2);
        });
        edges.terms(21, IDLE, "nobody is given", is -> {
            Ships sea = fleetAndRow(0, 2, 2, 0, 0, 1);
            is.due("moved(0)", sea.moved(0, 0), 1);
            is.due("moved(1)", sea.moved(1, 0), 0);
        });
    }

    private static Ships fleetAndRow(int... row) {
        Ships sea = Sea.of(THREE);
        Sea.bytes(sea, 0, row);
        return sea;
    }

    private static void stays(Edges edges) {
        edges.terms(7, "The ROW that is read, and what is taken from a SHELF, stay there;", "rows of meetings", is -> {
            Ships sea = fleetAndRow(0, 1, 1, 2);
            is.due("where", sea.where(0, 0), 1);
            is.due("where, again", sea.where(0, 0), 1);
            sea.can(0, 0);
            sea.soonest(0, 0, 0);
            sea.likely(0, 0, 0, 0);
            sea.letter(0, 0);
            sea.law(0, 0, 0, 0);
            sea.together(0, 1, 0);
            sea.moved(0, 0);
            int[] row = {0, 1, 1, 2};
            for (int i = 0; i < 4; i++) {
                is.due("element " + i, Sea.element(sea, 0, i), row[i]);
            }
            is.due("element 4", Sea.element(sea, 0, 4), -78);
        });
        edges.terms(2, "The ROW that is read, and what is taken from a SHELF, stay there;", "a text", is -> {
            Ships sea = new Ships();
            is.due("fleet", Sea.read(sea, "s00;"), 1);
            is.due("fleet, again", sea.fleet(7), 1);
            is.due("count(0)", sea.count(0), 2);
        });
        edges.terms(5, "The ROW that is read, and what is taken from a SHELF, stay there;", "a captain", is -> {
            Ships sea = Sea.of("s00;s00;");
            sea.keep(0, 1, 7, 3);
            is.due("commands", sea.commands(0, 0), 0);
            is.due("commands, again", sea.commands(0, 1), 0);
            is.due("pay", sea.pay(0), 13);
        });
        edges.terms(12, "The ROW that is read, and what is taken from a SHELF, stay there;", "crews as told", is -> {
            Ships sea = fleetAndRow(1, 0, 0);
            is.due("crews", sea.crews(0), 1);
            is.due("crews, again", sea.crews(0), 1);
        });
        edges.terms(23, "The ROW that is read, and what is taken from a SHELF, stay there;", "told gifts", is -> {
            Ships sea = fleetAndRow(0, 1, 0, 1);
            is.due("judge", sea.judge(0), 3);
            is.due("judge, again", sea.judge(0), 3);
        });
    }
}
