/** Promises 13 to 17: sailed, never, mixed, mixesMost, lacks. */
public final class CompanyEdgesTest {
    private static final int MIN = Integer.MIN_VALUE;
    private static final int MAX = Integer.MAX_VALUE;

    public static void main(String[] args) {
        Edges edges = new Edges("CompanyEdgesTest");
        list(edges);
        edges.run();
    }

    static void list(Edges edges) {
        sailed(edges);
        never(edges);
        mixed(edges);
        mixesMost(edges);
        lacks(edges);
    }

    private static void sailed(Edges edges) {
        String sentence = "All who are aboard one SHIP at one time have SAILED together from then on.";
        edges.terms(13, sentence, "from when a man comes by a text", is -> {
            Ships sea = Sea.of("s00;s00;m000;m000;m100;");
            is.due("sailed(0)", sea.sailed(0), 2);
            is.due("sailed(1)", sea.sailed(1), 1);
            is.due("sailed(2)", sea.sailed(2), 0);
        });
        edges.terms(13, sentence, "from when a man comes by a meeting", is -> {
            Ships sea = Sea.of("s00;s00;m000;m000;m100;m100;x01;");
            int[] due = {2 + 8, 1 + 4, 2 + 8, 1 + 4};
            for (int man = 0; man < 4; man++) {
                is.due("sailed(" + man + ")", sea.sailed(man), due[man]);
            }
        });
        edges.terms(13, sentence, "two who pass one another have not", is -> {
            Ships sea = Sea.of("s00;s00;m000;m100;x01;");
            is.due("sailed(0)", sea.sailed(0), 0);
            is.due("sailed(1)", sea.sailed(1), 0);
        });
        edges.terms(13, sentence, "for good, though they part", is -> {
            Ships sea = Sea.of("s00;s00;m000;m000;m100;x01;");
            is.due("ship(0, 3)", sea.ship(0, 3), 2 + 4);
            is.due("sailed(0)", sea.sailed(0), 2);
            is.due("sailed(1)", sea.sailed(1), 1 + 4);
        });
        edges.terms(13, sentence, "not with one who was aboard at another time", is -> {
            Ships sea = Sea.of("s00;s00;m000;m100;x01;m000;");
            is.due("man 2 has never been with 0", sea.sailed(2), 2);
            is.due("sailed(0)", sea.sailed(0), 0);
        });
        edges.terms(13, "SAILED with a man (bits; not he himself).", "all twelve but himself", is -> {
            Ships sea = Sea.of("s00;" + Sea.repeated("m000;", 12));
            is.due("sailed(0)", sea.sailed(0), 4094);
            is.due("sailed(11)", sea.sailed(11), 2047);
        });
        edges.of(13, "SAILED (bits).", "nobody", is -> is.due("sailed(0)", Sea.of("s00;m000;").sailed(0), 0));
        edges.of(13, "SAILED (bits). -1.", "no such man", is -> {
            Ships sea = Sea.of("s00;m000;m000;");
            for (int man : new int[] {-1, 2, 12, 32, MIN, MAX}) {
                is.due("sailed(" + man + ")", sea.sailed(man), -1);
            }
        });
    }

    private static void never(Edges edges) {
        String sentence = "NEVER: how many pairs of MEN have not SAILED together.";
        edges.terms(14, sentence, "each pair once, less with each meeting", is -> {
            Ships sea = Sea.of("s00;s00;m000;m000;m100;m100;");
            is.due("never()", sea.never(), 4);
            sea.meet(0, 1);
            is.due("never() behind one", sea.never(), 2);
            sea.meet(0, 1);
            is.due("never() behind two", sea.never(), 0);
            sea.meet(0, 1);
            is.due("never() behind three", sea.never(), 0);
        });
        edges.of(14, "NEVER.", "nobody, one man, all aboard one ship: 0", is -> {
            is.due("no men", Sea.of("s00;").never(), 0);
            is.due("one man", Sea.of("s00;m000;").never(), 0);
            is.due("twelve aboard one ship", Sea.of("s00;" + Sea.repeated("m000;", 12)).never(), 0);
        });
        edges.of(14, "NEVER.", "twelve aboard five ships", is -> {
            // 66 pairs, of which 3 + 3 + 1 + 1 + 1 are aboard one ship
            String men = Sea.repeated("m000;", 3) + Sea.repeated("m100;", 3) + Sea.repeated("m200;m300;m400;", 2);
            is.due("never()", Sea.of(Sea.repeated("s00;", 5) + men).never(), 57);
        });
    }

    private static void mixed(Edges edges) {
        String sentence = "MIXED: how many pairs of MEN of unlike TONGUES are aboard one SHIP;";
        edges.terms(15, sentence, "tongues, not trades; one ship, not two", is -> {
            is.due("unlike trades", Sea.of("s00;m000;m010;").mixed(), 0);
            is.due("unlike tongues", Sea.of("s00;m000;m001;").mixed(), 1);
            is.due("of two ships", Sea.of("s00;s00;m000;m101;").mixed(), 0);
        });
        edges.of(15, "MIXED.", "nobody: 0", is -> {
            is.due("no ships", new Ships().mixed(), 0);
            is.due("no men", Sea.of("s00;").mixed(), 0);
            is.due("one man", Sea.of("s00;m003;").mixed(), 0);
        });
        edges.of(15, "MIXED.", "twelve of four tongues aboard one ship", is -> {
            // 66 pairs less 3 of each tongue
            is.due("mixed()", Sea.of("s00;" + Sea.repeated("m000;m001;m002;m003;", 3)).mixed(), 54);
        });
        edges.of(15, "MIXED.", "as it is behind a meeting", is -> {
            Ships sea = Sea.of("s00;s00;m000;m000;m101;m101;");
            is.due("mixed()", sea.mixed(), 0);
            sea.meet(0, 1);
            is.due("mixed() behind it", sea.mixed(), 2);
        });
    }

    private static void mixesMost(Edges edges) {
        String sentence = "MIXES MOST: the MEETING by which MIXED is greatest, as it would be then (it may be less than now), "
            + "of several the least; -4 there is none.";
        edges.terms(16, sentence, "the greatest, of several the least", is -> {
            // 01 leaves all alike, 02 and 12 mix two pairs
            is.due("mixesMost()", Sea.of("s00;s00;s00;m000;m000;m100;m100;m201;m201;").mixesMost(), 2);
            is.due("all alike", Sea.of("s00;s00;s00;m000;m100;m200;").mixesMost(), 1);
        });
        edges.terms(16, sentence, "less than now", is -> {
            Ships sea = Sea.of("s60;s63;m000;m001;m100;m101;");
            is.due("mixed()", sea.mixed(), 2);
            is.due("mixesMost()", sea.mixesMost(), 1);
            sea.meet(0, 1);
            is.due("mixed() behind it", sea.mixed(), 0);
        });
        edges.terms(16, sentence, "the one that takes least away", is -> {
            // 01 leaves two pairs, 02 one; 12 changes like for like and leaves all four
            Ships sea = Sea.of("s60;s63;s66;m000;m001;m100;m101;m200;m200;m201;");
            is.due("mixed()", sea.mixed(), 4);
            is.due("mixesMost()", sea.mixesMost(), 12);
        });
        edges.terms(16, sentence, "none without two ships with men", is -> {
            is.due("no ships", new Ships().mixesMost(), -4);
            is.due("one ship", Sea.of("s00;m000;m001;").mixesMost(), -4);
            is.due("one ship with men", Sea.of("s00;s00;s00;m100;m101;").mixesMost(), -4);
            is.due("no men", Sea.of("s00;s00;").mixesMost(), -4);
        });
        String own = "MIXES MOST: the MEETING (10 times the lesser SHIP and the other); -4.";
        edges.of(16, own, "the first and the last pair of ships", is -> {
            is.due("ships 0 and 1", Sea.of("s00;s00;m000;m100;").mixesMost(), 1);
            is.due("ships 3 and 4", Sea.of("s00;s00;s00;s00;s00;m400;m300;").mixesMost(), 34);
            is.due("ships 0 and 4", Sea.of("s00;s00;s00;s00;s00;m400;m000;").mixesMost(), 4);
        });
        edges.of(16, own, "-4", is -> is.due("mixesMost()", Sea.of("s00;").mixesMost(), -4));
    }

    private static void lacks(Edges edges) {
        edges.terms(17, "LACKS: SHIPS (bits) without a man of a TRADE.", "trades, not tongues; ships without men, too", is -> {
            Ships sea = Sea.of("s00;s00;s00;m003;m130;");
            is.due("lacks(0)", sea.lacks(0), 2 + 4);
            is.due("lacks(3)", sea.lacks(3), 1 + 4);
            is.due("lacks(1)", sea.lacks(1), 7);
        });
        edges.of(17, "LACKS (bits).", "no ships, all five, none of them", is -> {
            is.due("no ships", new Ships().lacks(0), 0);
            is.due("all five", Sea.of(Sea.repeated("s00;", 5)).lacks(3), 31);
            is.due("none", Sea.of("s00;s00;m010;m110;").lacks(1), 0);
        });
        edges.of(17, "LACKS (bits).", "as it is behind a meeting", is -> {
            Ships sea = Sea.of("s00;s00;m010;m120;x01;");
            is.due("lacks(1)", sea.lacks(1), 1);
            is.due("lacks(2)", sea.lacks(2), 2);
        });
        edges.of(17, "LACKS (bits). -1.", "no such trade", is -> {
            Ships sea = Sea.of("s00;m000;");
            for (int trade : new int[] {-1, 4, MIN, MAX}) {
                is.due("lacks(" + trade + ")", sea.lacks(trade), -1);
            }
        });
    }
}
