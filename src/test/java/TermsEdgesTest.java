/** Terms, part 1: ships, captains and whom they give, men, pay. */
public final class TermsEdgesTest {
    private static final int MIN = Integer.MIN_VALUE;
    private static final int MAX = Integer.MAX_VALUE;

    public static void main(String[] args) {
        Edges edges = new Edges("TermsEdgesTest");
        list(edges);
        edges.run();
    }

    static void list(Edges edges) {
        calls(edges);
        ships(edges);
        kindsAndFigures(edges);
        men(edges);
        meetings(edges);
        captain(edges);
        lot(edges);
        newest(edges);
        oldest(edges);
        want(edges);
        best(edges);
        told(edges);
        keep(edges);
        lastMan(edges);
        pay(edges);
    }

    private static void calls(Edges edges) {
        edges.terms(1, "An object is used for at most 512 calls after it has been made", "the 512th answers as the first", is -> {
            Ships sea = Sea.of("s00;s00;m000;m100;");
            int meetings = sea.left() - 2;
            for (int i = 0; i < meetings; i++) {
                is.due("meeting " + i, sea.meet(0, 1), i % 2 == 0 ? 1 : 100);
            }
            is.due("count(2)", sea.count(2), meetings);
            is.due("man(0, 3)", sea.man(0, 3), meetings);
            is.due("calls that are left", sea.left(), 0);
        });
    }

    private static void ships(Edges edges) {
        String sentence = "4 as they come, each with a CAPTAIN of a KIND";
        edges.terms(3, sentence, "numbers from 0 on in the order of the text", is -> {
            Ships sea = Sea.of("s10;s21;s32;s43;s54;");
            for (int ship = 0; ship < 5; ship++) {
                is.due("kind of " + ship, sea.ship(ship, 0), ship + 1);
                is.due("figure of " + ship, sea.ship(ship, 1), ship);
            }
        });
        edges.terms(3, sentence, "there is no ship 5", is -> is.due("ship(5, 0)", Sea.of(Sea.repeated("s00;", 5)).ship(5, 0), -1));
        edges.terms(2, sentence, "full with five", is -> {
            Ships sea = Sea.of(Sea.repeated("s00;", 4));
            is.due("a fifth", Sea.read(sea, "s00;"), 1);
            is.due("a sixth", Sea.read(sea, "s00;"), -2000);
            is.due("count(0)", sea.count(0), 5);
        });
    }

    private static void kindsAndFigures(Edges edges) {
        String kinds = "0 CAPTAIN; 1 LOT under CAPTAIN; 2 NEW under CAPTAIN; 3 OLD under NEW; 4 WANT under CAPTAIN; "
            + "5 BEST under WANT; 6 TOLD under CAPTAIN; 7 KEEP under OLD";
        edges.terms(27, kinds, "0 to 7 are kinds, their neighbours are none", is -> {
            Ships sea = new Ships();
            for (int kind = 0; kind < 8; kind++) {
                is.due("kind " + kind, sea.keep(0, 1, kind, 0), 0);
            }
            is.due("kind -1", sea.keep(0, 1, -1, 0), -1);
            is.due("kind 8", sea.keep(0, 1, 8, 0), -1);
        });
        edges.terms(2, kinds, "s70; is a ship, s80; and s90; are none", is -> {
            Ships sea = new Ships();
            is.due("s70;", Sea.read(sea, "s70;"), 1);
            is.due("s80;", Sea.read(sea, "s80;"), -2000);
            is.due("s90;", Sea.read(sea, "s90;"), -2000);
            is.due("count(0)", sea.count(0), 1);
        });
        edges.terms(27, "a FIGURE (0 .. 9)", "0 and 9 are figures, their neighbours are none", is -> {
            Ships sea = new Ships();
            is.due("figure 0", sea.keep(0, 1, 1, 0), 0);
            is.due("figure 9", sea.keep(0, 1, 1, 9), 0);
            is.due("figure 10", sea.keep(0, 1, 1, 10), -1);
            is.due("figure -1", sea.keep(0, 1, 1, -1), -1);
            is.due("figure MAX", sea.keep(0, 1, 1, MAX), -1);
            is.due("figure MIN", sea.keep(0, 1, 1, MIN), -1);
            is.due("pay(0) of figure 9 still", sea.pay(0), 15);
        });
        edges.terms(3, "a FIGURE (0 .. 9)", "a ship's figure at either end", is -> {
            Ships sea = Sea.of("s10;s19;");
            is.due("ship(0, 1)", sea.ship(0, 1), 0);
            is.due("ship(1, 1)", sea.ship(1, 1), 9);
        });
    }

    private static void men(Edges edges) {
        String sentence = "MEN 0 .. 11 as they come, each aboard a SHIP";
        edges.terms(4, sentence, "numbers from 0 on in the order of the text, by whatever ship", is -> {
            Ships sea = Sea.of("s00;s00;m100;m001;m102;m003;");
            for (int man = 0; man < 4; man++) {
                is.due("tongue of " + man, sea.man(man, 2), man);
                is.due("ship of " + man, sea.man(man, 0), 1 - man % 2);
            }
        });
        edges.terms(4, sentence, "there is no man 12", is -> {
            Ships sea = Sea.of("s00;" + Sea.repeated("m000;", 12));
            is.due("man(11, 0)", sea.man(11, 0), 0);
            is.due("man(12, 0)", sea.man(12, 0), -1);
        });
        edges.terms(2, sentence, "full with twelve", is -> {
            Ships sea = Sea.of("s00;s00;" + Sea.repeated("m000;", 6) + Sea.repeated("m100;", 5));
            is.due("a twelfth", Sea.read(sea, "m000;"), 1);
            is.due("a thirteenth", Sea.read(sea, "m100;"), -2000);
            is.due("count(1)", sea.count(1), 12);
        });
        String trades = "with a TRADE (0 .. 3), a TONGUE (0 .. 3)";
        edges.terms(2, trades, "3 is one, 4 is none", is -> {
            Ships sea = Sea.of("s00;");
            is.due("m030;", Sea.read(sea, "m030;"), 1);
            is.due("m040;", Sea.read(sea, "m040;"), -2000);
            is.due("m003;", Sea.read(sea, "m003;"), 1);
            is.due("m004;", Sea.read(sea, "m004;"), -2000);
            is.due("m099;", Sea.read(sea, "m099;"), -2000);
            is.due("count(1)", sea.count(1), 2);
        });
        edges.terms(4, trades, "both at either end", is -> {
            Ships sea = Sea.of("s00;m003;m030;");
            is.due("man(0, 1)", sea.man(0, 1), 0);
            is.due("man(0, 2)", sea.man(0, 2), 3);
            is.due("man(1, 1)", sea.man(1, 1), 3);
            is.due("man(1, 2)", sea.man(1, 2), 0);
        });
        edges.terms(4, "SINCE (0 at first)", "of one who comes behind meetings, too", is -> {
            Ships sea = Sea.of("s00;s00;m000;m100;x01;x01;m000;");
            is.due("man(0, 3)", sea.man(0, 3), 2);
            is.due("man(2, 3)", sea.man(2, 3), 0);
        });
    }

    private static void meetings(Edges edges) {
        String sentence = "MEETINGS (how many there were; 0)";
        edges.terms(26, sentence, "none at first", is -> {
            is.due("of a new object", new Ships().count(2), 0);
            is.due("of a fleet that is read", Sea.of("s00;s00;m000;m100;").count(2), 0);
        });
        edges.terms(26, sentence, "those of texts and of meet are counted, refused ones are not", is -> {
            Ships sea = Sea.of("s00;s00;s00;m000;m100;x01;");
            is.due("meet(1, 0)", sea.meet(1, 0), 1);
            is.due("meet(0, 2)", sea.meet(0, 2), -3);
            is.due("meet(0, 0)", sea.meet(0, 0), -1);
            is.due("x01;x02;", Sea.read(sea, "x01;x02;"), -2004);
            is.due("count(2)", sea.count(2), 2);
        });
    }

    /** Whom ship 0 of a fleet gives. */
    private static void gives(Edges edges, String sentence, String which, String text, int due) {
        edges.terms(3, sentence, which, is -> is.due(text + " ship(0, 4)", Sea.of(text).ship(0, 4), due));
    }

    private static void captain(Edges edges) {
        String sentence = "Whom a CAPTAIN GIVES, of the MEN aboard: CAPTAIN the one of the least number.";
        gives(edges, sentence, "one man", "s00;m000;", 0);
        gives(edges, sentence, "man 0 is elsewhere", "s00;s00;m100;m000;m000;", 1);
        gives(edges, sentence, "man 11 alone", "s09;s00;" + Sea.repeated("m100;", 11) + "m000;", 11);
    }

    private static void lot(Edges edges) {
        String sentence = "LOT the one at place FIGURE modulo how many they are (by numbers, from 0).";
        gives(edges, sentence, "figure 0", "s10;s00;m100;m000;m000;", 1);
        gives(edges, sentence, "the last place", "s12;m000;m000;m000;", 2);
        gives(edges, sentence, "one behind the last place is the first", "s13;m000;m000;m000;", 0);
        gives(edges, sentence, "round more than once", "s19;m000;m000;m000;m000;", 1);
        gives(edges, sentence, "one man", "s19;m000;", 0);
        gives(edges, sentence, "9 of ten is the last", "s19;" + Sea.repeated("m000;", 10), 9);
        gives(edges, sentence, "9 of nine is the first", "s19;" + Sea.repeated("m000;", 9), 0);
        gives(edges, sentence, "places, not numbers", "s11;s00;m100;m000;m100;m000;m000;", 3);
    }

    private static void newest(Edges edges) {
        String sentence = "NEW the one with the greatest SINCE, of several the greatest number.";
        gives(edges, sentence, "one man", "s20;m000;", 0);
        gives(edges, sentence, "of several the greatest number", "s20;s00;m000;m000;m000;m100;", 2);
        gives(edges, sentence, "the greatest since goes ahead of the greatest number", "s20;s00;m100;m000;m000;x01;", 0);
    }

    private static void oldest(Edges edges) {
        String sentence = "OLD the one with the least SINCE, of several the least number.";
        gives(edges, sentence, "one man", "s30;m000;", 0);
        gives(edges, sentence, "of several the least number", "s30;s00;m100;m000;m000;m000;", 1);
        gives(edges, sentence, "the least since goes ahead of the least number", "s30;s00;m000;m000;m100;x01;x01;", 2);
    }

    private static void want(Edges edges) {
        String sentence = "WANT the first (by numbers) whose TRADE is not FIGURE modulo 4; as a CAPTAIN, if there is none.";
        gives(edges, sentence, "the first of several", "s41;m010;m010;m020;m000;", 2);
        gives(edges, sentence, "figure 3", "s43;m030;m000;", 1);
        gives(edges, sentence, "figure 4 is trade 0", "s44;m000;m010;", 1);
        gives(edges, sentence, "figure 7 is trade 3", "s47;m030;m000;", 1);
        gives(edges, sentence, "figure 8 is trade 0 again", "s48;m000;m010;", 1);
        gives(edges, sentence, "figure 9 is trade 1", "s49;m010;m020;", 1);
        gives(edges, sentence, "none", "s42;s00;m120;m020;m020;", 1);
        gives(edges, sentence, "one man who is wanted", "s42;m020;", 0);
    }

    private static void best(Edges edges) {
        String sentence = "BEST of those whose TRADE is not FIGURE modulo 4 (of all, if there is none) the one of whose TONGUE "
            + "most of all aboard are, of several the least number.";
        gives(edges, sentence, "the wanted ones are not given", "s51;m010;m010;m010;m001;", 3);
        gives(edges, sentence, "but their tongues are counted", "s51;m010;m001;m002;m012;", 2);
        gives(edges, sentence, "those of other ships are not", "s51;s00;m001;m002;m102;m102;", 0);
        gives(edges, sentence, "of all, if there is none", "s51;m010;m011;m011;", 1);
        gives(edges, sentence, "of several the least number", "s51;m010;m001;m002;", 1);
        gives(edges, sentence, "figure 5 is trade 1", "s55;m010;m010;m001;", 2);
        gives(edges, sentence, "figure 8 is trade 0", "s58;m000;m000;m011;", 2);
        gives(edges, sentence, "one man who is wanted", "s50;m000;", 0);
    }

    private static void told(Edges edges) {
        String sentence = "TOLD man FIGURE, if he is aboard, else as a CAPTAIN.";
        gives(edges, sentence, "man 0", "s60;m000;m000;", 0);
        gives(edges, sentence, "man 9", "s69;" + Sea.repeated("m000;", 10), 9);
        gives(edges, sentence, "he is elsewhere", "s60;s00;m100;m000;m000;", 1);
        gives(edges, sentence, "there is no such man", "s69;" + Sea.repeated("m000;", 9), 0);
        gives(edges, sentence, "he came", "s60;s00;m100;m000;m000;x01;", 0);
    }

    private static void keep(Edges edges) {
        String sentence = "KEEP as an OLD, but of the others than man FIGURE (of all, if there is no other).";
        gives(edges, sentence, "of the others", "s70;m000;m000;m000;", 1);
        gives(edges, sentence, "there is no other", "s70;m000;", 0);
        gives(edges, sentence, "he is elsewhere", "s70;s00;m100;m000;m000;", 1);
        gives(edges, sentence, "there is no such man", "s79;m000;m000;", 0);
        // behind them ship 0 has 2 since 1, 0 since 2, 1 since 3
        gives(edges, sentence, "the oldest of the others", "s72;s00;m000;m000;m100;m000;x01;x01;x01;", 0);
    }

    private static void lastMan(Edges edges) {
        String sentence = "MEN 0 .. 11 as they come, each aboard a SHIP";
        String others = Sea.repeated("m100;", 11);
        for (int kind = 0; kind < 8; kind++) {
            gives(edges, sentence, "man 11 alone, kind " + kind, "s" + kind + "1;s00;" + others + "m010;", 11);
        }
        String ten = Sea.repeated("m010;", 10);
        gives(edges, sentence, "man 11 by lot", "s19;s00;m110;m110;" + ten, 11);
        gives(edges, sentence, "man 11, the only one who is not wanted", "s41;m010;" + ten + "m000;", 11);
        gives(edges, sentence, "man 11, the best though the others are more", "s51;m010;" + ten + "m001;", 11);
        gives(edges, sentence, "man 11 of all who are new", "s20;m010;" + ten + "m000;", 11);
    }

    private static void pay(Edges edges) {
        pay(edges, "PAY of a CAPTAIN: CAPTAIN 6;", 0, 6, 6);
        pay(edges, "LOT a CAPTAIN's and FIGURE;", 1, 6, 15);
        pay(edges, "NEW a CAPTAIN's less 1;", 2, 5, 5);
        pay(edges, "OLD twice a NEW's;", 3, 10, 10);
        pay(edges, "WANT a CAPTAIN's times (FIGURE and 1);", 4, 6, 60);
        pay(edges, "BEST a WANT's and 3;", 5, 9, 63);
        pay(edges, "TOLD a CAPTAIN's less FIGURE;", 6, 6, -3);
        pay(edges, "KEEP an OLD's and FIGURE.", 7, 10, 19);
    }

    private static void pay(Edges edges, String sentence, int kind, int ofFigure0, int ofFigure9) {
        edges.terms(32, sentence, "figures 0 and 9", is -> {
            Ships sea = new Ships();
            sea.keep(0, 1, kind, 0);
            sea.keep(1, 1, kind, 9);
            is.due("pay, figure 0", sea.pay(0), ofFigure0);
            is.due("pay, figure 9", sea.pay(1), ofFigure9);
        });
    }
}
