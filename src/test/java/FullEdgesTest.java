/** A full fleet, five ships and twelve men: each call still answers, of the last ship and the last man, too. */
public final class FullEdgesTest {
    private static final String SHIPS = "4 as they come, each with a CAPTAIN of a KIND";
    private static final String MEN = "MEN 0 .. 11 as they come, each aboard a SHIP";
    private static final int SIZE = 12;
    /** The last man, aboard ship 1. */
    private static final int LAST = 11;

    public static void main(String[] args) {
        Edges edges = new Edges("FullEdgesTest");
        list(edges);
        edges.run();
    }

    static void list(Edges edges) {
        told(edges);
        rowsOfMeetings(edges);
        ways(edges);
        company(edges);
        lettersAndLaws(edges);
        twoAndSeeds(edges);
        tellers(edges);
    }

    /**
     * Captains who all give the oldest; man i is aboard ship i modulo 5 (0 has 0, 5 and 10, ship 1 has 1, 6
     * and 11, the others two each), his trade is i modulo 4, his tongue i modulo 3. On shelf 0 ships 0 and 4
     * meet once, by which men 0 and 4 change.
     */
    private static Ships full() {
        StringBuilder text = new StringBuilder(Sea.repeated("s30;", 5));
        for (int man = 0; man < SIZE; man++) {
            text.append('m').append(man % 5).append(man % 4).append(man % 3).append(';');
        }
        Ships sea = Sea.of(text.toString());
        Sea.bytes(sea, 0, 0, 4);
        return sea;
    }

    private static void told(Edges edges) {
        edges.terms(3, SHIPS, "a full fleet: each ship's crew and whom it gives", is -> {
            Ships sea = full();
            int[] crews = {1 + 32 + 1024, 2 + 64 + 2048, 4 + 128, 8 + 256, 16 + 512};
            for (int ship = 0; ship < 5; ship++) {
                is.due("ship(" + ship + ", 3)", sea.ship(ship, 3), crews[ship]);
                is.due("ship(" + ship + ", 4)", sea.ship(ship, 4), ship);
            }
        });
        edges.terms(5, SHIPS, "a full fleet: the last ship gets a captain", is -> {
            Ships sea = full();
            sea.keep(1, 1, 6, 9);
            is.due("commands(1, 4)", sea.commands(1, 4), 0);
            is.due("ship(4, 4)", sea.ship(4, 4), 9);
            is.due("commands(1, 5)", sea.commands(1, 5), -1);
        });
        edges.terms(6, SHIPS, "a full fleet: the last ship meets", is -> {
            Ships sea = full();
            is.due("meet(4, 1)", sea.meet(4, 1), 401);
            is.due("meet(5, 1)", sea.meet(5, 1), -1);
            is.due("meet(1, 5)", sea.meet(1, 5), -1);
        });
        edges.terms(4, MEN, "a full fleet: each man", is -> {
            Ships sea = full();
            for (int man = 0; man < SIZE; man++) {
                is.due("man(" + man + ", 0)", sea.man(man, 0), man % 5);
                is.due("man(" + man + ", 1)", sea.man(man, 1), man % 4);
                is.due("man(" + man + ", 2)", sea.man(man, 2), man % 3);
                is.due("man(" + man + ", 3)", sea.man(man, 3), 0);
            }
        });
    }

    private static void rowsOfMeetings(Edges edges) {
        edges.terms(7, MEN, "a full fleet: where each man is behind a meeting", is -> {
            Ships sea = full();
            for (int man = 0; man < SIZE; man++) {
                int due = man == 0 ? 4 : man == 4 ? 0 : man % 5;
                is.due("where(" + man + ")", sea.where(man, 0), due);
            }
            is.due("where(12)", sea.where(SIZE, 0), -1);
        });
        edges.terms(8, MEN, "a full fleet: where each man can be", is -> {
            Ships sea = full();
            for (int man = 0; man < SIZE; man++) {
                int due = man % 5 == 0 || man % 5 == 4 ? 1 + 16 : 1 << man % 5;
                is.due("can(" + man + ")", sea.can(man, 0), due);
            }
            is.due("can(12)", sea.can(SIZE, 0), -1);
        });
        edges.terms(9, SHIPS, "a full fleet: how soon each man is aboard the last ship", is -> {
            Ships sea = full();
            for (int man = 0; man < SIZE; man++) {
                int due = man % 5 == 4 ? 0 : man % 5 == 0 ? 1 : -4;
                is.due("soonest(" + man + ", 4)", sea.soonest(man, 4, 0), due);
            }
            is.due("soonest(0, 5)", sea.soonest(0, 5, 0), -1);
        });
        edges.terms(10, SHIPS, "a full fleet: how likely each man is aboard the last ship", is -> {
            Ships sea = full();
            long[] above = {1, 0, 0, 0, 1};
            long[] below = {3, 1, 1, 1, 2};
            for (int man = 0; man < SIZE; man++) {
                is.due("likely(" + man + ", 4), above", sea.likely(man, 4, 0, 0), above[man % 5]);
                is.due("likely(" + man + ", 4), below", sea.likely(man, 4, 0, 1), below[man % 5]);
            }
            is.due("likely(0, 5)", sea.likely(0, 5, 0, 0), -1000000001L);
        });
        edges.terms(10, SHIPS, "a full fleet: aboard the last ship, while others meet", is -> {
            Ships sea = full();
            Sea.bytes(sea, 0, 0, 4, 1, 2, 2, 3);
            is.due("likely(0, 4), above", sea.likely(0, 4, 0, 0), 1);
            is.due("likely(0, 4), below", sea.likely(0, 4, 0, 1), 3);
            is.due("likely(9, 4), above", sea.likely(9, 4, 0, 0), 1);
            is.due("likely(9, 4), below", sea.likely(9, 4, 0, 1), 2);
        });
    }

    private static void ways(Edges edges) {
        edges.terms(11, MEN, "a full fleet: the last man's way to the last ship", is -> {
            // ship 1 gives 1 and 6 ahead of him; 01 01 14 is the first of the series
            Ships sea = full();
            is.due("fewest(11, 4, 0)", sea.fewest(LAST, 4, 0), 3);
            is.due("fewest(11, 4, 1)", sea.fewest(LAST, 4, 1), 1);
            is.due("fewest(9, 3, 0)", sea.fewest(9, 3, 0), 2);
            // 04 34 goes ahead of 14 34
            is.due("fewest(9, 3, 1)", sea.fewest(9, 3, 1), 4);
            is.due("fewest(11, 5, 0)", sea.fewest(LAST, 5, 0), -1);
            is.due("fewest(12, 4, 0)", sea.fewest(SIZE, 4, 0), -1);
        });
        edges.terms(12, MEN, "a full fleet: crews as told of all twelve", is -> {
            Ships sea = full();
            Sea.bytes(sea, 1, 0, 1, 2, 3, 4, 0, 1, 2, 3, 4, 0, 1);
            is.due("as they are", sea.crews(1), 0);
            Sea.bytes(sea, 1, 4, 1, 2, 3, 0, 0, 1, 2, 3, 4, 0, 1);
            is.due("0 and 4 change", sea.crews(1), 1);
            Sea.bytes(sea, 1, 4, 3, 2, 1, 0, 0, 1, 2, 3, 4, 0, 1);
            is.due("1 and 3, too", sea.crews(1), 2);
            // ship 4 has given 4 by then, and gives 9 for 2
            Sea.bytes(sea, 1, 4, 3, 4, 1, 0, 0, 1, 2, 3, 2, 0, 1);
            is.due("2 and 9, too", sea.crews(1), 3);
            Sea.bytes(sea, 1, 0, 1, 2, 3, 4, 0, 1, 2, 3, 4, 0, 0);
            is.due("the last man elsewhere", sea.crews(1), -4);
            Sea.bytes(sea, 1, 0, 1, 2, 3, 4, 0, 1, 2, 3, 4, 0, 5);
            is.due("the last man aboard no ship", sea.crews(1), -13);
            sea.row(1, Sea.BYTES, SIZE + 1);
            is.due("one more than twelve", sea.crews(1), -13);
        });
    }

    private static void company(Edges edges) {
        edges.terms(13, MEN, "a full fleet: with whom each man has sailed", is -> {
            Ships sea = full();
            for (int man = 0; man < SIZE; man++) {
                is.due("sailed(" + man + ")", sea.sailed(man), sea.ship(man % 5, 3) - (1 << man));
            }
        });
        edges.terms(14, MEN, "a full fleet: pairs that never sailed", is -> {
            // 66 pairs less 3 + 3 + 1 + 1 + 1
            Ships sea = full();
            is.due("never()", sea.never(), 57);
            sea.meet(0, 4);
            is.due("never() behind a meeting: 0 has 9 now, 4 has 5 and 10", sea.never(), 54);
        });
        edges.terms(15, MEN, "a full fleet: each pair aboard one ship is of unlike tongues", is -> {
            is.due("mixed()", full().mixed(), 9);
        });
        edges.terms(16, SHIPS, "a full fleet: 0 and 3 speak alike, so nothing is lost by their meeting", is -> {
            Ships sea = full();
            is.due("mixesMost()", sea.mixesMost(), 3);
            // by 01, 02, 12 and the like two of a tongue come together
            sea.meet(0, 3);
            is.due("mixed() behind it", sea.mixed(), 9);
        });
        edges.terms(17, SHIPS, "a full fleet: what each of five ships lacks", is -> {
            Ships sea = full();
            int[] due = {2 + 4, 4 + 8, 8 + 16, 1 + 16};
            for (int trade = 0; trade < 4; trade++) {
                is.due("lacks(" + trade + ")", sea.lacks(trade), due[trade]);
            }
        });
    }

    private static void lettersAndLaws(Edges edges) {
        edges.terms(18, SHIPS, "a full fleet: letters to the last ship, from the last man", is -> {
            Ships sea = full();
            is.due("letter(0)", sea.letter(0, 0), 1 + 16 + 32 + 512 + 1024);
            is.due("letter(9)", sea.letter(9, 0), 1 + 16 + 32 + 512 + 1024);
            is.due("letter(11)", sea.letter(LAST, 0), 2 + 64 + 2048);
            is.due("letter(12)", sea.letter(SIZE, 0), -1);
        });
        edges.terms(19, SHIPS, "a full fleet: a law for all five captains", is -> {
            Ships sea = full();
            is.due("NEW ones give 10", sea.law(10, 0, 2, 0), 1);
            is.due("and 9", sea.law(9, 0, 2, 0), 1);
            is.due("not 0", sea.law(0, 0, 2, 0), 0);
            is.due("KEEP ones of figure 4 give 9", sea.law(9, 0, 7, 4), 1);
            is.due("and 0", sea.law(0, 0, 7, 4), 1);
            is.due("nobody gives 11, who is not of it", sea.law(LAST, 0, 6, 9), 0);
            is.due("the captains stay", sea.ship(4, 0), 3);
        });
        edges.terms(21, MEN, "a full fleet: who is given", is -> {
            Ships sea = full();
            for (int man = 0; man < SIZE; man++) {
                is.due("moved(" + man + ")", sea.moved(man, 0), man == 0 || man == 4 ? 1 : 0);
            }
        });
    }

    private static void twoAndSeeds(Edges edges) {
        edges.terms(20, MEN, "a full fleet: pairs of each ship", is -> {
            Ships sea = full();
            is.due("together(0, 10)", sea.together(0, 10, 0), 0);
            is.due("together(5, 10)", sea.together(5, 10, 0), 1);
            is.due("together(11, 1)", sea.together(LAST, 1, 0), 1);
            is.due("together(9, 4)", sea.together(9, 4, 0), 0);
            is.due("together(11, 0)", sea.together(LAST, 0, 0), -3);
            is.due("together(11, 12)", sea.together(LAST, SIZE, 0), -1);
        });
        edges.terms(22, SHIPS, "a full fleet: draws below five", is -> {
            // 4 1 changes 4 and 1; 3 4 changes 3 and 9, who is older than 1 there
            Ships sea = full();
            int[] due = {0, 4, 2, 4, 1, 0, 1, 2, 3, 3, 0, 1};
            for (int man = 0; man < SIZE; man++) {
                is.due("seeded(" + man + ", 2, 7)", sea.seeded(man, 2, 7), due[man]);
            }
        });
        edges.terms(23, MEN, "a full fleet: told gifts of the last ship, the last man", is -> {
            Ships sea = full();
            Sea.bytes(sea, 1, 0, 4, 0, 4, 3, 1, 3, 1);
            is.due("all are so", sea.judge(1), -4);
            sea.put(1, 7, LAST);
            is.due("ship 1 does not give 11", sea.judge(1), 7);
            sea.keep(2, 1, 2, 0);
            sea.commands(2, 1);
            is.due("now it does", sea.judge(1), -4);
        });
    }

    private static void tellers(Edges edges) {
        edges.terms(26, MEN, "a full fleet: counted", is -> {
            Ships sea = full();
            int[] due = {5, SIZE, 0, 0, 3};
            for (int what = 0; what < 5; what++) {
                is.due("count(" + what + ")", sea.count(what), due[what]);
            }
        });
        edges.terms(25, MEN, "a full fleet: restored", is -> {
            Ships sea = full();
            String before = Sea.picture(sea, 5, SIZE);
            sea.image();
            Sea.text(sea, 7, "x01;x12;x23;x34;x40;");
            is.due("five meetings", sea.fleet(7), 5);
            is.due("restore()", sea.restore(), 0);
            is.holds("all is as it was", before.equals(Sea.picture(sea, 5, SIZE)));
        });
        edges.terms(2, MEN, "a full fleet: it takes meetings, but no ship and no man more", is -> {
            Ships sea = full();
            is.due("x04;", Sea.read(sea, "x04;"), 1);
            is.due("x04;s00;", Sea.read(sea, "x04;s00;"), -2004);
            is.due("x04;m400;", Sea.read(sea, "x04;m400;"), -2004);
            is.due("count(2)", sea.count(2), 1);
        });
    }
}
