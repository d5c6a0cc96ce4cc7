import java.util.Arrays;

/** Promises 6 to 12: meet, where, can, soonest, likely, fewest, crews. */
public final class MeetingsEdgesTest {
    private static final int MIN = Integer.MIN_VALUE;
    private static final int MAX = Integer.MAX_VALUE;
    private static final long NO_SUCH = -1000000001L;
    /** Ship 0 with men 0 and 1, ship 1 with man 2, ship 2 with 3, 4 and 5, ship 3 with nobody. */
    private static final String FOUR = "s00;s00;s00;s00;m000;m000;m100;m200;m200;m200;";

    public static void main(String[] args) {
        Edges edges = new Edges("MeetingsEdgesTest");
        list(edges);
        edges.run();
    }

    static void list(Edges edges) {
        meetings(edges);
        meet(edges);
        refusalsOfMeet(edges);
        where(edges);
        can(edges);
        soonest(edges);
        likely(edges);
        likelyOfMany(edges);
        partsOfLikely(edges);
        fewest(edges);
        firstOfFewest(edges);
        callsOfFewest(edges);
        crews(edges);
        refusalsOfCrews(edges);
    }

    private static void meetings(Edges edges) {
        String sentence = "A MEETING of two SHIPS with MEN aboard: each GIVES one (both are chosen ahead of any change), "
            + "who is aboard the other one then; MEETINGS is one more, SINCE of both becomes it.";
        edges.terms(6, sentence, "both are chosen ahead of any change", is -> {
            // a captain would give the 0 who comes, a NEW the one who comes
            is.due("to a captain", Sea.of("s00;s00;m000;m100;m100;").meet(0, 1), 1);
            is.due("from a captain", Sea.of("s00;s00;m000;m100;m100;").meet(1, 0), 100);
            is.due("to a NEW", Sea.of("s00;s20;m100;m100;m000;").meet(0, 1), 201);
            is.due("from a NEW", Sea.of("s00;s20;m100;m100;m000;").meet(1, 0), 102);
        });
        edges.terms(6, sentence, "one man each: they change", is -> {
            Ships sea = Sea.of("s00;s00;m000;m100;");
            is.due("meet(0, 1)", sea.meet(0, 1), 1);
            is.due("ship(0, 3)", sea.ship(0, 3), 2);
            is.due("ship(1, 3)", sea.ship(1, 3), 1);
            is.due("man(0, 0)", sea.man(0, 0), 1);
            is.due("man(1, 0)", sea.man(1, 0), 0);
        });
        edges.terms(6, sentence, "crews keep their sizes", is -> {
            Ships sea = Sea.of("s00;s00;" + Sea.repeated("m000;", 11) + "m100;");
            sea.meet(0, 1);
            is.due("ship(0, 2)", sea.ship(0, 2), 11);
            is.due("ship(1, 2)", sea.ship(1, 2), 1);
            is.due("ship(0, 3)", sea.ship(0, 3), 4094);
        });
        edges.terms(6, sentence, "since of both, and of nobody else", is -> {
            Ships sea = Sea.of("s00;s00;m000;m000;m100;m100;x01;x01;");
            // 0 and 2 change, then 1 and 0
            int[] since = {2, 2, 1, 0};
            for (int man = 0; man < 4; man++) {
                is.due("man(" + man + ", 3)", sea.man(man, 3), since[man]);
            }
            is.due("count(2)", sea.count(2), 2);
        });
    }

    private static void meet(Edges edges) {
        String sentence = "A MEETING: 100 times whom the first GIVES, and whom the other one.";
        String twelve = "s20;s20;" + Sea.repeated("m000;m100;", 6);
        edges.of(6, sentence, "the greatest numbers, in either order", is -> {
            is.due("meet(0, 1)", Sea.of(twelve).meet(0, 1), 1011);
            is.due("meet(1, 0)", Sea.of(twelve).meet(1, 0), 1110);
        });
        edges.of(6, sentence, "man 0 on either side", is -> {
            is.due("meet(0, 1)", Sea.of("s00;s00;m000;m100;").meet(0, 1), 1);
            is.due("meet(1, 0)", Sea.of("s00;s00;m000;m100;").meet(1, 0), 100);
        });
        edges.of(6, sentence, "ships 3 and 4", is -> {
            Ships sea = Sea.of("s00;s00;s00;s00;s00;m400;m300;");
            is.due("meet(3, 4)", sea.meet(3, 4), 100);
            is.due("ship(4, 3)", sea.ship(4, 3), 2);
        });
    }

    private static void refusalsOfMeet(Edges edges) {
        String sentence = "-1 (one twice, too), -3 one has no MEN.";
        edges.of(6, sentence, "-1: no such ship", is -> {
            Ships sea = Sea.of("s00;s00;m000;m100;");
            is.due("meet(-1, 0)", sea.meet(-1, 0), -1);
            is.due("meet(0, -1)", sea.meet(0, -1), -1);
            is.due("meet(2, 0)", sea.meet(2, 0), -1);
            is.due("meet(0, 2)", sea.meet(0, 2), -1);
            is.due("meet(MIN, MAX)", sea.meet(MIN, MAX), -1);
            is.due("count(2)", sea.count(2), 0);
        });
        edges.of(6, sentence, "-1: one twice", is -> {
            Ships sea = Sea.of("s00;s00;m000;m000;");
            is.due("meet(0, 0)", sea.meet(0, 0), -1);
            is.due("meet(1, 1), which has no men", sea.meet(1, 1), -1);
            is.due("count(2)", sea.count(2), 0);
        });
        edges.of(6, sentence, "-3: one has no men", is -> {
            Ships sea = Sea.of("s00;s00;s00;m000;");
            is.due("meet(0, 1)", sea.meet(0, 1), -3);
            is.due("meet(1, 0)", sea.meet(1, 0), -3);
            is.due("meet(1, 2), neither has", sea.meet(1, 2), -3);
            is.due("count(2)", sea.count(2), 0);
        });
        edges.of(6, sentence, "-1 ahead of -3", is -> {
            Ships sea = Sea.of("s00;s00;m000;");
            is.due("meet(1, 2)", sea.meet(1, 2), -1);
            is.due("meet(-1, 1)", sea.meet(-1, 1), -1);
        });
    }

    private static void where(Edges edges) {
        edges.terms(7, "In mind (nothing stays)", "none of the calls leaves a trace", is -> {
            Ships sea = Sea.of("s20;s30;s00;m001;m010;m100;m123;m200;x01;x12;");
            Sea.bytes(sea, 0, 0, 1, 1, 2, 2, 0);
            Sea.bytes(sea, 1, 2, 2, 0, 0, 1);
            Sea.bytes(sea, 2, 0, 1, 0, 2);
            String before = Sea.picture(sea, 3, 5);
            sea.where(0, 0);
            sea.can(0, 0);
            sea.soonest(0, 2, 0);
            sea.likely(0, 2, 0, 1);
            sea.fewest(0, 2, 0);
            sea.fewest(0, 2, 1);
            sea.crews(1);
            sea.mixesMost();
            sea.letter(0, 0);
            sea.law(0, 0, 7, 3);
            sea.together(0, 3, 0);
            sea.moved(0, 0);
            sea.seeded(0, 40, 99);
            sea.judge(2);
            is.holds("all is as it was", before.equals(Sea.picture(sea, 3, 5)));
        });
        edges.terms(7, "WHERE a man is behind a ROW of MEETINGS.", "one behind the other, from how things are now", is -> {
            Ships sea = fleetAndRow(FOUR, 0, 1, 1, 2, 2, 0);
            // 0 and 2 change, then 0 and 3, then 0 and 1
            int[] ships = {0, 2, 0, 1, 2, 2};
            for (int man = 0; man < 6; man++) {
                is.due("where(" + man + ")", sea.where(man, 0), ships[man]);
            }
            sea.meet(0, 1);
            // now 0 is aboard 1: 1 and 0 change, then 1 and 3, then 1 and 0
            is.due("where(0) behind a meeting", sea.where(0, 0), 2);
            is.due("where(1) behind a meeting", sea.where(1, 0), 0);
        });
        edges.of(7, "WHERE by the ROW in SHELF d.", "no meetings: where he is", is -> {
            Ships sea = fleetAndRow(FOUR);
            is.due("where(2)", sea.where(2, 0), 1);
            is.due("where(5)", sea.where(5, 0), 2);
        });
        edges.of(7, "WHERE by the ROW in SHELF d.", "of that shelf", is -> {
            Ships sea = fleetAndRow(FOUR);
            Sea.bytes(sea, 6, 0, 1);
            is.due("where(0, 0)", sea.where(0, 0), 0);
            is.due("where(0, 6)", sea.where(0, 6), 1);
        });
        edges.of(7, "-1, and of the ROW.", "-1: no such man, whatever the row", is -> {
            Ships sea = fleetAndRow(FOUR, 0, 0);
            for (int man : new int[] {-1, 6, 12, MIN, MAX}) {
                is.due("where(" + man + ", 0), not as told", sea.where(man, 0), -1);
                is.due("where(" + man + ", 1), nothing", sea.where(man, 1), -1);
            }
        });
    }

    private static Ships fleetAndRow(String text, int... row) {
        Ships sea = Sea.of(text);
        Sea.bytes(sea, 0, row);
        return sea;
    }

    private static void can(Edges edges) {
        String sentence = "CAN: the SHIPS (bits) where he may be behind it, if at each MEETING of his SHIP he may be given or stay "
            + "aboard, as one likes (he stays only if another one is aboard).";
        edges.terms(8, sentence, "no meetings: where he is", is -> {
            Ships sea = fleetAndRow(FOUR);
            is.due("can(0)", sea.can(0, 0), 1);
            is.due("can(5)", sea.can(5, 0), 4);
        });
        edges.terms(8, sentence, "given or not, whoever the captain would give", is -> {
            Ships sea = fleetAndRow(FOUR, 0, 1);
            is.due("can(0)", sea.can(0, 0), 3);
            is.due("can(1), whom a captain would not give", sea.can(1, 0), 3);
            is.due("can(3), whose ship is not of it", sea.can(3, 0), 4);
        });
        edges.terms(8, sentence, "one alone can't stay", is -> {
            Ships sea = fleetAndRow(FOUR, 0, 1);
            is.due("can(2)", sea.can(2, 0), 1);
            Sea.bytes(sea, 0, 0, 1, 1, 2);
            is.due("can(0): he may be alone aboard 1, then he goes", sea.can(0, 0), 5);
            Sea.bytes(sea, 0, 0, 1, 0, 1);
            is.due("can(2), behind two", sea.can(2, 0), 3);
            Sea.bytes(sea, 0, 1, 2);
            is.due("can(2), with ship 2", sea.can(2, 0), 4);
            Sea.bytes(sea, 0, 2, 1);
            is.due("can(2), with ship 2, the other way", sea.can(2, 0), 4);
        });
        edges.terms(8, sentence, "one of two can", is -> {
            Ships sea = fleetAndRow("s00;s00;m000;m000;m100;m100;", 0, 1);
            is.due("can(0)", sea.can(0, 0), 3);
            is.due("can(2)", sea.can(2, 0), 3);
        });
        edges.of(8, "CAN (bits).", "all five ships", is -> {
            Ships sea = fleetAndRow("s00;s00;s00;s00;s00;m000;m000;m100;m100;m200;m200;m300;m300;m400;m400;", 0, 1, 1, 2, 2, 3, 3, 4);
            is.due("can(0)", sea.can(0, 0), 31);
            is.due("can(9)", sea.can(9, 0), 8 + 16);
        });
        edges.of(8, "-1, and of the ROW.", "-1: no such man, whatever the row", is -> {
            Ships sea = fleetAndRow(FOUR, 0, 0);
            for (int man : new int[] {-1, 6, 12, MIN, MAX}) {
                is.due("can(" + man + ", 0), not as told", sea.can(man, 0), -1);
                is.due("can(" + man + ", 1), nothing", sea.can(man, 1), -1);
            }
        });
    }

    private static void soonest(Edges edges) {
        String sentence = "SOONEST: behind how many of the ROW's MEETINGS (0: now), at the earliest, he can be aboard a SHIP so; -4.";
        edges.terms(9, sentence, "0: now, though he must go at once", is -> {
            Ships sea = fleetAndRow(FOUR, 0, 1);
            is.due("soonest(2, 1)", sea.soonest(2, 1, 0), 0);
            is.due("soonest(0, 0)", sea.soonest(0, 0, 0), 0);
        });
        edges.terms(9, sentence, "0 with no meetings, -4 of other ships", is -> {
            Ships sea = fleetAndRow(FOUR);
            is.due("soonest(0, 0)", sea.soonest(0, 0, 0), 0);
            is.due("soonest(0, 1)", sea.soonest(0, 1, 0), -4);
        });
        edges.terms(9, sentence, "at the earliest of several", is -> {
            Ships sea = fleetAndRow(FOUR, 1, 2, 0, 1, 0, 1);
            is.due("soonest(0, 1)", sea.soonest(0, 1, 0), 2);
        });
        edges.terms(9, sentence, "behind the last of twelve", is -> {
            Ships sea = fleetAndRow(FOUR, 0, 2, 0, 2, 0, 2, 0, 2, 0, 2, 0, 2, 0, 2, 0, 2, 0, 2, 0, 2, 0, 2, 0, 1);
            is.due("soonest(0, 1)", sea.soonest(0, 1, 0), 12);
        });
        edges.terms(9, sentence, "though he is elsewhere by the end", is -> {
            Ships sea = fleetAndRow(FOUR, 0, 1, 1, 2);
            is.due("soonest(0, 1)", sea.soonest(0, 1, 0), 1);
        });
        edges.of(9, "SOONEST; -4.", "none: no meeting leads there, nobody comes to a ship without men", is -> {
            Ships sea = fleetAndRow(FOUR, 1, 2, 0, 3);
            is.due("soonest(0, 2)", sea.soonest(0, 2, 0), -4);
            is.due("soonest(0, 3)", sea.soonest(0, 3, 0), -4);
        });
        edges.of(9, "SOONEST; -4.", "by the row of that shelf", is -> {
            Ships sea = fleetAndRow(FOUR);
            Sea.bytes(sea, 7, 0, 1);
            is.due("soonest(0, 1, 0)", sea.soonest(0, 1, 0), -4);
            is.due("soonest(0, 1, 7)", sea.soonest(0, 1, 7), 1);
        });
        edges.of(9, "-1, and of the ROW.", "-1: no such man, no such ship, whatever the row", is -> {
            Ships sea = fleetAndRow(FOUR, 0, 0);
            for (int number : new int[] {-1, 6, 12, MIN, MAX}) {
                is.due("soonest(" + number + ", 0, 0), not as told", sea.soonest(number, 0, 0), -1);
                is.due("soonest(0, " + number + ", 0), not as told", sea.soonest(0, number, 0), -1);
                is.due("soonest(0, " + number + ", 1), nothing", sea.soonest(0, number, 1), -1);
            }
            is.due("soonest(0, 4, 0)", sea.soonest(0, 4, 0), -1);
        });
    }

    private static final String LIKELY = "LIKELY: how likely he is there behind the ROW's first MEETINGS (8 at most; others are not looked "
        + "at), if by lot each man aboard is as likely given: a fraction in least terms.";

    private static void part(Edges.Edge is, Ships sea, int man, int ship, long above, long below) {
        is.due("likely(" + man + ", " + ship + "), above", sea.likely(man, ship, 0, 0), above);
        is.due("likely(" + man + ", " + ship + "), below", sea.likely(man, ship, 0, 1), below);
    }

    private static void likely(Edges edges) {
        edges.terms(10, LIKELY, "no meetings: 1 and 0", is -> {
            Ships sea = fleetAndRow(FOUR);
            part(is, sea, 0, 0, 1, 1);
            part(is, sea, 0, 1, 0, 1);
        });
        edges.terms(10, LIKELY, "one alone goes for certain", is -> {
            Ships sea = fleetAndRow(FOUR, 0, 1);
            part(is, sea, 2, 0, 1, 1);
            part(is, sea, 2, 1, 0, 1);
        });
        edges.terms(10, LIKELY, "each man aboard is as likely, whatever the captain", is -> {
            Ships sea = fleetAndRow("s60;s00;m000;m000;m000;m100;m100;", 0, 1);
            part(is, sea, 0, 1, 1, 3);
            part(is, sea, 2, 1, 1, 3);
            part(is, sea, 2, 0, 2, 3);
            part(is, sea, 4, 0, 1, 2);
        });
        edges.terms(10, LIKELY, "where he is already, while others meet", is -> {
            // half and half aboard 0 and 2; then 0 meets 1
            Ships sea = fleetAndRow(FOUR, 0, 2, 0, 1);
            part(is, sea, 0, 0, 1, 4);
            part(is, sea, 0, 1, 1, 4);
            part(is, sea, 0, 2, 1, 2);
            // or 2 meets 1
            Sea.bytes(sea, 0, 0, 2, 2, 1);
            part(is, sea, 0, 0, 1, 2);
            part(is, sea, 0, 1, 1, 6);
            part(is, sea, 0, 2, 1, 3);
        });
        edges.terms(10, LIKELY, "in least terms", is -> {
            // goes and stays 1/3 * 1/2, stays and goes 2/3 * 1/3: 7/18; the rest is 11/18
            Ships sea = fleetAndRow("s00;s00;m000;m000;m000;m100;m100;", 0, 1, 0, 1);
            part(is, sea, 0, 1, 7, 18);
            part(is, sea, 0, 0, 11, 18);
            Sea.bytes(sea, 0, 0, 1, 1, 0, 0, 1);
            // 7/18 * 1/2 + 11/18 * 1/3
            part(is, sea, 0, 1, 43, 108);
        });
    }

    private static void likelyOfMany(Edges edges) {
        String twelve = "s00;s00;" + Sea.repeated("m000;m100;", 6);
        edges.terms(10, LIKELY, "eight are looked at, not seven", is -> {
            // half and half but for half of (2/3) by itself so often
            Ships sea = fleetAndRow(twelve, meetings(7));
            part(is, sea, 0, 0, 2187 + 128, 2 * 2187);
            Sea.bytes(sea, 0, meetings(8));
            part(is, sea, 0, 0, 6561 + 256, 2 * 6561);
        });
        edges.terms(10, LIKELY, "others are not looked at", is -> {
            Ships sea = fleetAndRow(twelve, meetings(9));
            part(is, sea, 0, 0, 6561 + 256, 2 * 6561);
            Sea.bytes(sea, 0, meetings(12));
            part(is, sea, 0, 1, 6561 - 256, 2 * 6561);
        });
        edges.terms(10, LIKELY, "numbers beyond an int", is -> {
            // 5/12 and 7/12 times (23/35) by itself eight times
            Ships sea = fleetAndRow("s00;s00;" + Sea.repeated("m000;", 5) + Sea.repeated("m100;", 7), meetings(8));
            part(is, sea, 0, 0, 140566117263L, 321696484375L);
            part(is, sea, 0, 1, 321696484375L - 140566117263L, 321696484375L);
        });
    }

    /** So many meetings of ships 0 and 1. */
    private static int[] meetings(int many) {
        int[] row = new int[2 * many];
        for (int i = 1; i < row.length; i += 2) {
            row[i] = 1;
        }
        return row;
    }

    private static void partsOfLikely(Edges edges) {
        edges.of(10, "LIKELY, part 0 above, 1 below the line.", "of a chance that is none", is -> {
            Ships sea = fleetAndRow(FOUR, 0, 2);
            is.due("part 0", sea.likely(0, 3, 0, 0), 0);
            is.due("part 1", sea.likely(0, 3, 0, 1), 1);
        });
        edges.of(10, "LIKELY, part 0 above, 1 below the line.", "of one", is -> {
            Ships sea = fleetAndRow(FOUR, 0, 2);
            is.due("part 0", sea.likely(3, 2, 0, 0), 2);
            is.due("part 1", sea.likely(3, 2, 0, 1), 3);
        });
        edges.of(10, "-1000000001 (part, too)", "no such part, man, ship, whatever the row", is -> {
            Ships sea = fleetAndRow(FOUR, 0, 0);
            for (int number : new int[] {-1, 6, 12, MIN, MAX}) {
                is.due("part " + number, sea.likely(0, 0, 0, number), NO_SUCH);
                is.due("man " + number, sea.likely(number, 0, 0, 0), NO_SUCH);
                is.due("ship " + number, sea.likely(0, number, 0, 1), NO_SUCH);
                is.due("ship " + number + ", nothing", sea.likely(0, number, 1, 1), NO_SUCH);
            }
            is.due("part 2", sea.likely(0, 0, 0, 2), NO_SUCH);
            is.due("ship 4", sea.likely(0, 4, 0, 0), NO_SUCH);
        });
        edges.terms(10, "longs are 1000000000 less.", "each refusal of likely", is -> {
            Ships sea = Sea.of(FOUR);
            is.due("no such shelf", sea.likely(0, 0, 8, 0), -1000000001L);
            is.due("nothing", sea.likely(0, 0, 0, 0), -1000000011L);
            sea.keep(0, 1, 0, 0);
            is.due("a captain", sea.likely(0, 0, 0, 1), -1000000012L);
            Sea.bytes(sea, 0, 1, 1);
            is.due("not as told", sea.likely(0, 0, 0, 0), -1000000013L);
        });
    }

    private static final String FEWEST = "FEWEST: the fewest MEETINGS (0 .. 4; CAPTAINS as they are) behind which a man is aboard a SHIP; -4 more;";
    private static final String FIRST = "the first of these MEETINGS (10 times the lesser SHIP and the other; the first series, by its MEETINGS "
        + "one behind the other; -4 none, for 0 MEETINGS, too).";

    private static void fewest(Edges edges) {
        edges.terms(11, FEWEST, "0: he is there", is -> is.due("fewest(2, 1, 0)", Sea.of(FOUR).fewest(2, 1, 0), 0));
        edges.terms(11, FEWEST, "1, 2, 3, 4, and -4 for 5", is -> {
            // each of two OLD ones gives the next who was there from the first
            Ships sea = Sea.of("s30;s30;" + Sea.repeated("m000;", 5) + "m100;");
            for (int man = 0; man < 4; man++) {
                is.due("fewest(" + man + ", 1, 0)", sea.fewest(man, 1, 0), man + 1);
            }
            is.due("fewest(4, 1, 0)", sea.fewest(4, 1, 0), -4);
        });
        edges.terms(11, FEWEST, "captains as they are", is -> {
            Ships sea = Sea.of("s00;s00;m000;m000;m100;");
            is.due("man 1 of a captain", sea.fewest(1, 1, 0), 2);
            sea.keep(0, 1, 6, 1);
            sea.commands(0, 0);
            is.due("man 1 of one who is told so", sea.fewest(1, 1, 0), 1);
            sea.keep(0, 1, 7, 1);
            sea.commands(0, 0);
            sea.commands(0, 1);
            // he who is kept never goes while there is another
            is.due("man 1 of one who keeps him", sea.fewest(1, 1, 0), -4);
        });
        edges.terms(11, FEWEST, "ships without men have no part in it, whatever their numbers", is -> {
            // 12 gives man 0 first, then man 1; ships 0 and 3 have nobody to give
            Ships sea = Sea.of("s00;s00;s00;s00;m100;m100;m200;");
            is.due("fewest(1, 2, 0)", sea.fewest(1, 2, 0), 2);
            is.due("fewest(1, 2, 1)", sea.fewest(1, 2, 1), 12);
            is.due("fewest(1, 0, 0)", sea.fewest(1, 0, 0), -4);
            is.due("fewest(1, 3, 1)", sea.fewest(1, 3, 1), -4);
        });
        edges.terms(11, FEWEST, "-4: nobody comes to a ship without men, or from where none is given", is -> {
            Ships sea = Sea.of(FOUR);
            is.due("fewest(0, 3, 0)", sea.fewest(0, 3, 0), -4);
            is.due("fewest(5, 0, 0)", sea.fewest(5, 0, 0), -4);
        });
    }

    private static void firstOfFewest(Edges edges) {
        edges.terms(11, FIRST, "10 times the lesser ship and the other", is -> {
            Ships sea = Sea.of("s00;s00;s00;s00;s00;m000;m100;m200;m300;m400;");
            is.due("from 1 to 0", sea.fewest(1, 0, 1), 1);
            is.due("from 0 to 1", sea.fewest(0, 1, 1), 1);
            is.due("from 4 to 3", sea.fewest(4, 3, 1), 34);
            is.due("from 3 to 4", sea.fewest(3, 4, 1), 34);
            is.due("from 2 to 0", sea.fewest(2, 0, 1), 2);
        });
        edges.terms(11, FIRST, "of several series the first", is -> {
            // man 2 goes to 0 by 01 01 or 12 01, to 2 by 01 12 or 12 12
            Ships sea = Sea.of("s30;s30;s30;m000;m100;m100;m200;");
            is.due("fewest(2, 0, 0)", sea.fewest(2, 0, 0), 2);
            is.due("fewest(2, 0, 1)", sea.fewest(2, 0, 1), 1);
            is.due("fewest(2, 2, 1)", sea.fewest(2, 2, 1), 1);
        });
        edges.terms(11, FIRST, "the first of a series, though its second is less", is -> {
            // 01 brings man 0 to ship 1, who is given ahead of man 2; only 12 01 brings man 2 to ship 0
            Ships sea = Sea.of("s60;s61;s63;m000;m100;m100;m200;");
            is.due("fewest(2, 0, 0)", sea.fewest(2, 0, 0), 2);
            is.due("fewest(2, 0, 1)", sea.fewest(2, 0, 1), 12);
        });
        edges.terms(11, FIRST, "none for 0 meetings, none for more than 4", is -> {
            Ships sea = Sea.of("s30;s30;" + Sea.repeated("m000;", 5) + "m100;");
            is.due("fewest(0, 0, 1)", sea.fewest(0, 0, 1), -4);
            is.due("fewest(3, 1, 1)", sea.fewest(3, 1, 1), 1);
            is.due("fewest(4, 1, 1)", sea.fewest(4, 1, 1), -4);
        });
    }

    private static void callsOfFewest(Edges edges) {
        String sentence = "FEWEST: how many (what 0; -4), the first (1; -4). -1.";
        edges.of(11, sentence, "each what", is -> {
            Ships sea = Sea.of("s30;s30;m000;m000;m100;");
            is.due("fewest(1, 1, 0)", sea.fewest(1, 1, 0), 2);
            is.due("fewest(1, 1, 1)", sea.fewest(1, 1, 1), 1);
        });
        edges.of(11, sentence, "-4: none", is -> {
            Ships sea = Sea.of("s30;s30;m000;");
            is.due("fewest(0, 1, 0)", sea.fewest(0, 1, 0), -4);
            is.due("fewest(0, 1, 1)", sea.fewest(0, 1, 1), -4);
            is.due("fewest(0, 0, 1)", sea.fewest(0, 0, 1), -4);
        });
        edges.of(11, sentence, "-1: no such man, ship, what", is -> {
            Ships sea = Sea.of(FOUR);
            for (int number : new int[] {-1, 6, 12, MIN, MAX}) {
                is.due("man " + number, sea.fewest(number, 0, 0), -1);
                is.due("ship " + number, sea.fewest(0, number, 1), -1);
                is.due("what " + number, sea.fewest(0, 0, number), -1);
            }
            is.due("ship 4", sea.fewest(0, 4, 0), -1);
            is.due("what 2", sea.fewest(0, 0, 2), -1);
        });
    }

    private static void crews(Edges edges) {
        String sentence = "CREWS: a ROW of bytes tells of each man a SHIP: the fewest MEETINGS (0 .. 3) behind which all are so; -4.";
        edges.terms(12, sentence, "0: all are so", is -> is.due("crews", fleetAndRow(FOUR, 0, 0, 1, 2, 2, 2).crews(0), 0));
        edges.terms(12, sentence, "1, 2, 3, and -4 for 4", is -> {
            // each of two OLD ones gives the next who was there from the first
            Ships sea = Sea.of("s30;s30;m000;m000;m000;m000;m100;m100;m100;m100;");
            for (int changed = 0; changed <= 4; changed++) {
                int[] told = {0, 0, 0, 0, 1, 1, 1, 1};
                for (int i = 0; i < changed; i++) {
                    told[i] = 1;
                    told[4 + i] = 0;
                }
                Sea.bytes(sea, 0, told);
                is.due("crews " + Arrays.toString(told), sea.crews(0), changed < 4 ? changed : -4);
            }
        });
        edges.terms(12, sentence, "all are so, not most of them", is -> {
            is.due("one is not", fleetAndRow(FOUR, 1, 0, 1, 2, 2, 2).crews(0), -4);
            is.due("the last one is not", fleetAndRow(FOUR, 0, 0, 1, 2, 2, 0).crews(0), -4);
        });
        edges.terms(12, sentence, "by more ships than two", is -> {
            is.due("0 and 2 change, 0 and 3 change", fleetAndRow(FOUR, 2, 0, 0, 1, 2, 2).crews(0), 2);
        });
        edges.terms(12, sentence, "ships without men have no part in it, whatever their numbers", is -> {
            Ships sea = fleetAndRow("s30;s30;s30;s30;m100;m100;m200;m200;", 2, 2, 1, 1);
            is.due("all four change", sea.crews(0), 2);
            Sea.bytes(sea, 0, 0, 1, 2, 2);
            is.due("one aboard ship 0", sea.crews(0), -4);
        });
        edges.of(12, "CREWS by the ROW in SHELF d; -4.", "none", is -> {
            is.due("a crew of another size", fleetAndRow(FOUR, 0, 0, 0, 2, 2, 2).crews(0), -4);
            is.due("a man where nobody is", fleetAndRow(FOUR, 0, 0, 1, 2, 2, 3).crews(0), -4);
        });
        edges.of(12, "CREWS by the ROW in SHELF d; -4.", "no men: an empty row is so", is -> {
            is.due("ships without men", fleetAndRow("s00;s00;").crews(0), 0);
            Ships sea = new Ships();
            sea.row(0, 0, 0);
            is.due("no ships", sea.crews(0), 0);
        });
    }

    private static void refusalsOfCrews(Edges edges) {
        String sentence = "-1, -11, -12 (no ROW of bytes), -13 (its size isn't how many MEN there are, no SHIP).";
        edges.of(12, sentence, "-1: no such shelf", is -> {
            Ships sea = Sea.of(FOUR);
            for (int d : new int[] {-1, 8, MIN, MAX}) {
                is.due("crews(" + d + ")", sea.crews(d), -1);
            }
        });
        edges.of(12, sentence, "-11: nothing is held", is -> is.due("crews(0)", Sea.of(FOUR).crews(0), -11));
        edges.of(12, sentence, "-12: a captain, shorts, ints", is -> {
            Ships sea = Sea.of(FOUR);
            sea.keep(0, 1, 0, 0);
            is.due("a captain", sea.crews(0), -12);
            Sea.row(sea, 0, Sea.SHORTS, 0, 0, 1, 2, 2, 2);
            is.due("shorts", sea.crews(0), -12);
            Sea.row(sea, 0, Sea.INTS, 0, 0, 1, 2, 2, 2);
            is.due("ints", sea.crews(0), -12);
            Sea.row(sea, 0, Sea.INTS, 9);
            is.due("ints of another size", sea.crews(0), -12);
        });
        edges.of(12, sentence, "-13: its size isn't how many men there are", is -> {
            is.due("one too few", fleetAndRow(FOUR, 0, 0, 1, 2, 2).crews(0), -13);
            is.due("one too many", fleetAndRow(FOUR, 0, 0, 1, 2, 2, 2, 0).crews(0), -13);
            is.due("none", fleetAndRow(FOUR).crews(0), -13);
            is.due("one, and there are no men", fleetAndRow("s00;", 0).crews(0), -13);
        });
        edges.of(12, sentence, "-13: no ship", is -> {
            is.due("one above the last", fleetAndRow(FOUR, 4, 0, 1, 2, 2, 2).crews(0), -13);
            is.due("-1", fleetAndRow(FOUR, 0, 0, 1, 2, 2, -1).crews(0), -13);
            is.due("127", fleetAndRow(FOUR, 0, 127, 1, 2, 2, 2).crews(0), -13);
            is.due("-128", fleetAndRow(FOUR, 0, -128, 1, 2, 2, 2).crews(0), -13);
        });
    }
}
