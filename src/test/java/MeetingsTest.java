/** Promises 6 to 12: meet, where, can, soonest, likely, fewest, crews. */
public final class MeetingsTest {
    private static final Check CHECK = new Check("MeetingsTest");
    private static final long FAR = 1000000000L;
    /** Three ships: 0 with men 0 and 1, 1 with man 2, 2 with men 3, 4, 5; ship 3 has none. */
    private static final String FOUR = "s00;s00;s00;s00;m000;m000;m100;m200;m200;m200;";

    public static void main(String[] args) {
        meet();
        where();
        rowsOfMeetings();
        can();
        soonest();
        likely();
        likelyLooksAtEight();
        fewest();
        firstSeries();
        crews();
        nothingStays();
        CHECK.end();
    }

    private static void meet() {
        Ships sea = Sea.of("s20;s30;s00;m000;m000;m100;m100;");
        CHECK.due("meet", sea.meet(0, 1), 102);
        CHECK.due("man 1", sea.man(1, 0), 1);
        CHECK.due("man 2", sea.man(2, 0), 0);
        CHECK.due("since", sea.man(1, 3), 1);
        CHECK.due("since of the other", sea.man(2, 3), 1);
        CHECK.due("since of one who stayed", sea.man(0, 3), 0);
        CHECK.due("the other way round", sea.meet(1, 0), 302);
        CHECK.due("meetings", sea.count(2), 2);
        CHECK.due("no men", sea.meet(0, 2), -3);
        CHECK.due("no men, the other way", sea.meet(2, 1), -3);
        CHECK.due("one twice", sea.meet(0, 0), -1);
        CHECK.due("one without men twice", sea.meet(2, 2), -1);
        CHECK.due("no such ship", sea.meet(0, 3), -1);
        CHECK.due("no such ship, no men", sea.meet(2, 3), -1);
        CHECK.due("ship -1", sea.meet(-1, 0), -1);
        CHECK.due("ship MIN", sea.meet(0, Integer.MIN_VALUE), -1);
        CHECK.due("refused ones are no meetings", sea.count(2), 2);
        Ships alone = Sea.of("s00;s00;m000;m100;");
        CHECK.due("two alone", alone.meet(0, 1), 1);
        CHECK.due("who is on 0 then", alone.ship(0, 3), 2);
        CHECK.due("two alone, back", alone.meet(1, 0), 1);
    }

    private static void where() {
        Ships sea = Sea.of(FOUR);
        Sea.bytes(sea, 0, 0, 1, 1, 2, 2, 0);
        CHECK.due("man 0", sea.where(0, 0), 0);
        CHECK.due("man 1", sea.where(1, 0), 2);
        CHECK.due("man 2", sea.where(2, 0), 0);
        CHECK.due("man 3", sea.where(3, 0), 1);
        sea.row(0, 0, 0);
        CHECK.due("no meetings", sea.where(2, 0), 1);
        Sea.bytes(sea, 0, 0, 3, 0, 1);
        CHECK.due("one without men does nothing", sea.where(0, 0), 1);
        CHECK.due("man -1", sea.where(-1, 0), -1);
        CHECK.due("man 6", sea.where(6, 0), -1);
        CHECK.due("nothing stays", sea.count(2), 0);
    }

    /** The row's refusals, by every call that reads one. */
    private static void rowsOfMeetings() {
        Ships sea = Sea.of(FOUR);
        refused(sea, -1, -1);
        refused(sea, 8, -1);
        refused(sea, 1, -11);
        sea.keep(1, 1, 0, 0);
        refused(sea, 1, -12);
        Sea.row(sea, 1, Sea.SHORTS, 0, 1);
        refused(sea, 1, -12);
        Sea.row(sea, 1, Sea.INTS, 0, 1);
        refused(sea, 1, -12);
        Sea.bytes(sea, 1, 0);
        refused(sea, 1, -13);
        Sea.bytes(sea, 1, 0, 0);
        refused(sea, 1, -13);
        Sea.bytes(sea, 1, 0, 4);
        refused(sea, 1, -13);
        Sea.bytes(sea, 1, -1, 0);
        refused(sea, 1, -13);
        Sea.bytes(sea, 1, 0, 1, 1, 2, 2, 2);
        refused(sea, 1, -13);
        sea.row(1, 0, 26);
        fillWithMeetings(sea, 26);
        refused(sea, 1, -13);
        sea.row(1, 0, 25);
        fillWithMeetings(sea, 24);
        refused(sea, 1, -13);
        sea.row(1, 0, 24);
        fillWithMeetings(sea, 24);
        CHECK.due("twelve are well", sea.where(3, 1), 2);
    }

    private static void fillWithMeetings(Ships sea, int size) {
        for (int i = 0; i < size; i++) {
            sea.put(1, i, i % 2);
        }
    }

    private static void refused(Ships sea, int d, int due) {
        CHECK.due("where " + d, sea.where(0, d), due);
        CHECK.due("can " + d, sea.can(0, d), due);
        CHECK.due("soonest " + d, sea.soonest(0, 0, d), due);
        CHECK.due("likely " + d, sea.likely(0, 0, d, 0), due - FAR);
        CHECK.due("letter " + d, sea.letter(0, d), due);
        CHECK.due("law " + d, sea.law(0, d, 0, 0), due);
        CHECK.due("together " + d, sea.together(0, 1, d), due);
        CHECK.due("moved " + d, sea.moved(0, d), due);
        CHECK.due("where, no man, " + d, sea.where(6, d), -1);
        CHECK.due("can, no man, " + d, sea.can(6, d), -1);
        CHECK.due("soonest, no ship, " + d, sea.soonest(0, 4, d), -1);
        CHECK.due("likely, no part, " + d, sea.likely(0, 0, d, 2), -1 - FAR);
        CHECK.due("letter, no man, " + d, sea.letter(-1, d), -1);
        CHECK.due("law, no kind, " + d, sea.law(0, d, 8, 0), -1);
        CHECK.due("together, no man, " + d, sea.together(0, 6, d), -1);
        CHECK.due("moved, no man, " + d, sea.moved(12, d), -1);
    }

    private static void can() {
        Ships sea = Sea.of(FOUR);
        sea.row(0, 0, 0);
        CHECK.due("now", sea.can(0, 0), 1);
        Sea.bytes(sea, 0, 0, 1);
        CHECK.due("given or not", sea.can(0, 0), 3);
        CHECK.due("one alone must go", sea.can(2, 0), 1);
        CHECK.due("not of this meeting", sea.can(3, 0), 4);
        Sea.bytes(sea, 0, 0, 1, 1, 2);
        CHECK.due("on, but not staying alone", sea.can(0, 0), 5);
        CHECK.due("from the other end", sea.can(3, 0), 6);
        CHECK.due("man 2 is elsewhere by then", sea.can(2, 0), 1);
        Sea.bytes(sea, 0, 0, 1, 1, 0);
        CHECK.due("there and back", sea.can(0, 0), 3);
        CHECK.due("one alone, back or not", sea.can(2, 0), 3);
        Sea.bytes(sea, 0, 0, 3, 3, 1);
        CHECK.due("meetings that do nothing", sea.can(0, 0), 1);
        CHECK.due("one alone does not go where nobody is", sea.can(2, 0), 2);
        CHECK.due("man -1", sea.can(-1, 0), -1);
    }

    private static void soonest() {
        Ships sea = Sea.of(FOUR);
        Sea.bytes(sea, 0, 0, 1, 3, 0, 1, 2, 2, 0);
        CHECK.due("now", sea.soonest(0, 0, 0), 0);
        CHECK.due("first", sea.soonest(0, 1, 0), 1);
        CHECK.due("a meeting that does nothing counts", sea.soonest(0, 2, 0), 3);
        CHECK.due("never", sea.soonest(0, 3, 0), -4);
        CHECK.due("back at last", sea.soonest(3, 0, 0), 4);
        CHECK.due("man 2", sea.soonest(2, 2, 0), 4);
        CHECK.due("man 2, now", sea.soonest(2, 1, 0), 0);
        sea.row(0, 0, 0);
        CHECK.due("no meetings, now", sea.soonest(0, 0, 0), 0);
        CHECK.due("no meetings, never", sea.soonest(0, 1, 0), -4);
        CHECK.due("man 6", sea.soonest(6, 0, 0), -1);
        CHECK.due("ship 4", sea.soonest(0, 4, 0), -1);
        CHECK.due("ship -1", sea.soonest(0, -1, 0), -1);
    }

    private static void likely() {
        Ships sea = Sea.of(FOUR);
        Sea.bytes(sea, 0, 0, 2);
        part(sea, 0, 0, 1, 2);
        part(sea, 0, 2, 1, 2);
        part(sea, 0, 1, 0, 1);
        part(sea, 3, 0, 1, 3);
        part(sea, 3, 2, 2, 3);
        part(sea, 2, 1, 1, 1);
        Sea.bytes(sea, 0, 0, 2, 0, 2);
        // stays twice 1/4, goes and comes back 1/2 * 1/3
        part(sea, 0, 0, 5, 12);
        part(sea, 0, 2, 7, 12);
        Sea.bytes(sea, 0, 0, 3, 0, 1, 3, 1, 1, 2);
        part(sea, 0, 0, 1, 2);
        part(sea, 0, 1, 0, 1);
        part(sea, 0, 2, 1, 2);
        part(sea, 3, 1, 1, 3);
        CHECK.due("part -1", sea.likely(0, 0, 0, -1), -1 - FAR);
        CHECK.due("part 2", sea.likely(0, 0, 0, 2), -1 - FAR);
        CHECK.due("man 6", sea.likely(6, 0, 0, 0), -1 - FAR);
        CHECK.due("ship 4", sea.likely(0, 4, 0, 1), -1 - FAR);
        sea.row(0, 0, 0);
        part(sea, 0, 0, 1, 1);
        part(sea, 0, 1, 0, 1);
    }

    private static void part(Ships sea, int man, int ship, long above, long below) {
        CHECK.due("likely " + man + " " + ship + " above", sea.likely(man, ship, 0, 0), above);
        CHECK.due("likely " + man + " " + ship + " below", sea.likely(man, ship, 0, 1), below);
    }

    private static void likelyLooksAtEight() {
        Ships sea = Sea.of("s00;s00;" + Sea.repeated("m000;m100;", 6));
        int[] meetings = new int[24];
        for (int i = 0; i < 24; i++) {
            meetings[i] = i % 2;
        }
        // half and half but for (2/3)^8
        Sea.bytes(sea, 0, meetings);
        part(sea, 0, 0, 6561 + 256, 2 * 6561);
        Sea.bytes(sea, 0, java.util.Arrays.copyOf(meetings, 16));
        part(sea, 0, 0, 6561 + 256, 2 * 6561);
        Sea.bytes(sea, 0, java.util.Arrays.copyOf(meetings, 14));
        part(sea, 0, 0, 2187 + 128, 2 * 2187);
        Ships nobody = Sea.of("s00;s00;s00;m000;m000;m100;");
        int[] vain = new int[18];
        for (int i = 0; i < 16; i++) {
            vain[i] = i % 2 == 0 ? 0 : 2;
        }
        vain[17] = 1;
        Sea.bytes(nobody, 0, vain);
        part(nobody, 0, 1, 0, 1);
    }

    private static void fewest() {
        Ships sea = Sea.of(FOUR);
        way(sea, 0, 0, 0, -4);
        way(sea, 0, 1, 1, 1);
        way(sea, 0, 2, 1, 2);
        way(sea, 0, 3, -4, -4);
        way(sea, 1, 1, 2, 1);
        way(sea, 1, 2, 2, 1);
        // 3 goes ahead of 4 by any meeting of ship 2, and what comes is less than 4
        way(sea, 4, 0, -4, -4);
        CHECK.due("man -1", sea.fewest(-1, 0, 0), -1);
        CHECK.due("man 6", sea.fewest(6, 0, 0), -1);
        CHECK.due("ship 4", sea.fewest(0, 4, 0), -1);
        CHECK.due("ship -1", sea.fewest(0, -1, 1), -1);
        CHECK.due("what 2", sea.fewest(0, 0, 2), -1);
        CHECK.due("what -1", sea.fewest(0, 0, -1), -1);
        Ships old = Sea.of("s30;s30;s00;s00;m000;m000;m000;m000;m000;m100;");
        way(old, 3, 1, 4, 1);
        way(old, 4, 1, -4, -4);
        way(old, 2, 1, 3, 1);
    }

    private static void firstSeries() {
        // man 1 is the second of ship 1; any meeting of it ahead brings him to the front
        Ships sea = Sea.of("s30;s30;s30;m000;m100;m100;m200;");
        way(sea, 1, 0, 1, 1);
        way(sea, 2, 0, 2, 1);
        way(sea, 2, 2, 2, 1);
        // 01 brings man 0 to ship 1, who goes ahead of man 2; 12 brings man 3, who does not
        Ships told = Sea.of("s60;s61;s63;m000;m100;m100;m200;");
        way(told, 2, 0, 2, 12);
        way(told, 2, 2, 2, 12);
        way(told, 3, 0, 1, 2);
    }

    private static void way(Ships sea, int man, int ship, int meetings, int first) {
        CHECK.due("fewest " + man + " " + ship, sea.fewest(man, ship, 0), meetings);
        CHECK.due("first of fewest " + man + " " + ship, sea.fewest(man, ship, 1), first);
    }

    private static void crews() {
        Ships sea = Sea.of(FOUR);
        Sea.bytes(sea, 0, 0, 0, 1, 2, 2, 2);
        CHECK.due("as they are", sea.crews(0), 0);
        Sea.bytes(sea, 0, 1, 0, 0, 2, 2, 2);
        CHECK.due("one meeting", sea.crews(0), 1);
        Sea.bytes(sea, 0, 2, 0, 0, 1, 2, 2);
        CHECK.due("two meetings", sea.crews(0), 2);
        Sea.bytes(sea, 0, 2, 0, 1, 0, 2, 2);
        CHECK.due("another one meeting", sea.crews(0), 1);
        Sea.bytes(sea, 0, 0, 0, 0, 2, 2, 2);
        CHECK.due("a crew of another size", sea.crews(0), -4);
        Sea.bytes(sea, 0, 0, 0, 1, 2, 3, 2);
        CHECK.due("a man where nobody is", sea.crews(0), -4);
        Sea.bytes(sea, 0, 0, 0, 2, 1, 2, 2);
        CHECK.due("one meeting of 1 and 2", sea.crews(0), 1);
        threeMeetings();
        refusalsOfCrews(sea);
    }

    private static void threeMeetings() {
        // each meeting gives the oldest: three of 0 and 1 change all six men
        Ships sea = Sea.of("s30;s30;m000;m000;m000;m100;m100;m100;");
        Sea.bytes(sea, 0, 1, 1, 1, 0, 0, 0);
        CHECK.due("three meetings", sea.crews(0), 3);
        Sea.bytes(sea, 0, 1, 1, 0, 0, 0, 1);
        CHECK.due("two meetings", sea.crews(0), 2);
        Sea.bytes(sea, 0, 0, 1, 1, 1, 0, 0);
        CHECK.due("the fourth meeting gives the first again", sea.crews(0), -4);
        Ships four = Sea.of("s30;s30;m000;m000;m000;m000;m100;m100;m100;m100;");
        Sea.bytes(four, 0, 1, 1, 1, 1, 0, 0, 0, 0);
        CHECK.due("four are too many", four.crews(0), -4);
    }

    private static void refusalsOfCrews(Ships sea) {
        CHECK.due("shelf -1", sea.crews(-1), -1);
        CHECK.due("shelf 8", sea.crews(8), -1);
        CHECK.due("nothing", sea.crews(1), -11);
        sea.keep(1, 1, 0, 0);
        CHECK.due("a captain", sea.crews(1), -12);
        Sea.row(sea, 1, Sea.SHORTS, 0, 0, 1, 2, 2, 2);
        CHECK.due("shorts", sea.crews(1), -12);
        Sea.bytes(sea, 1, 0, 0, 1, 2, 2);
        CHECK.due("too few", sea.crews(1), -13);
        Sea.bytes(sea, 1, 0, 0, 1, 2, 2, 2, 2);
        CHECK.due("too many", sea.crews(1), -13);
        Sea.bytes(sea, 1, 0, 0, 1, 2, 2, 4);
        CHECK.due("no ship", sea.crews(1), -13);
        Sea.bytes(sea, 1, -1, 0, 1, 2, 2, 2);
        CHECK.due("ship -1", sea.crews(1), -13);
        Ships empty = new Ships();
        empty.row(0, 0, 0);
        CHECK.due("no men, no places", empty.crews(0), 0);
    }

    private static void nothingStays() {
        Ships sea = Sea.of("s20;s30;s00;m001;m010;m100;m123;m200;x01;x12;");
        Sea.bytes(sea, 0, 0, 1, 1, 2, 2, 0);
        Sea.bytes(sea, 1, 2, 2, 0, 0, 1);
        String before = picture(sea);
        sea.where(0, 0);
        sea.can(0, 0);
        sea.soonest(0, 2, 0);
        sea.likely(0, 2, 0, 1);
        sea.fewest(0, 2, 1);
        sea.crews(1);
        sea.mixesMost();
        sea.letter(0, 0);
        sea.law(0, 0, 7, 3);
        sea.together(0, 3, 0);
        sea.moved(0, 0);
        sea.seeded(0, 40, 99);
        sea.judge(0);
        CHECK.holds("all is as it was: " + before, before.equals(picture(sea)));
    }

    private static String picture(Ships sea) {
        StringBuilder all = new StringBuilder();
        for (int what = 0; what < 5; what++) {
            all.append(sea.count(what)).append(' ');
            for (int i = 0; i < 12; i++) {
                all.append(sea.ship(i, what)).append(' ').append(sea.man(i, what)).append(' ');
            }
        }
        for (int i = 0; i < 12; i++) {
            all.append(sea.sailed(i)).append(' ').append(Sea.element(sea, 0, i)).append(' ');
        }
        return all.toString();
    }
}
