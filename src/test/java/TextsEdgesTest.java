/** Promises 1 and 2, and part 2 of the document: a new object, a fleet read from bytes. */
public final class TextsEdgesTest {
    private static final String FAULT_1 = "FAULT: kind 1 the place of the first byte with which no FLEET can go on (the size, if it ends too early);";
    private static final String FAULT_2 = "else kind 2 the place of the letter of the first STATEMENT that isn't as told "
        + "(a number out of range, no such SHIP, one twice, one without MEN at x, no room)";
    private static final String REFUSALS = "-1, -11, -12 (no ROW of bytes)";

    public static void main(String[] args) {
        Edges edges = new Edges("TextsEdgesTest");
        list(edges);
        edges.run();
    }

    static void list(Edges edges) {
        newObject(edges);
        statements(edges);
        atLeastOne(edges);
        bytesOfNoForm(edges);
        textsThatEndTooEarly(edges);
        numbersOutOfRange(edges);
        shipsThatCannotMeet(edges);
        noRoom(edges);
        numbersOfFaults(edges);
        allOrNothing(edges);
        orderOfFaults(edges);
        refusals(edges);
    }

    private static void newObject(Edges edges) {
        edges.of(1, "No SHIPS, no MEN.", "all that tells of ships and men is empty", is -> {
            Ships sea = new Ships();
            is.due("count(0)", sea.count(0), 0);
            is.due("count(1)", sea.count(1), 0);
            is.due("count(3)", sea.count(3), 0);
            is.due("count(4)", sea.count(4), 0);
            is.due("ship(0, 0)", sea.ship(0, 0), -1);
            is.due("man(0, 0)", sea.man(0, 0), -1);
            is.due("meet(0, 1)", sea.meet(0, 1), -1);
            is.due("never()", sea.never(), 0);
            is.due("mixed()", sea.mixed(), 0);
            is.due("mixesMost()", sea.mixesMost(), -4);
            is.due("lacks(0)", sea.lacks(0), 0);
            is.due("sailed(0)", sea.sailed(0), -1);
        });
        edges.of(1, "No SHIPS, no MEN.", "no call finds a man or a ship", is -> {
            Ships sea = new Ships();
            sea.row(0, 0, 0);
            sea.keep(1, 1, 0, 0);
            is.due("where", sea.where(0, 0), -1);
            is.due("can", sea.can(0, 0), -1);
            is.due("soonest", sea.soonest(0, 0, 0), -1);
            is.due("likely", sea.likely(0, 0, 0, 0), -1000000001L);
            is.due("fewest", sea.fewest(0, 0, 0), -1);
            is.due("letter", sea.letter(0, 0), -1);
            is.due("law", sea.law(0, 0, 0, 0), -1);
            is.due("together", sea.together(0, 1, 0), -1);
            is.due("moved", sea.moved(0, 0), -1);
            is.due("seeded", sea.seeded(0, 1, 0), -1);
            is.due("commands", sea.commands(1, 0), -1);
            is.due("judge of no gifts", sea.judge(0), -4);
            is.due("crews of nobody", sea.crews(0), 0);
        });
    }

    /** What a text answers to a new object. */
    private static void text(Edges edges, String sentence, String which, String text, int due) {
        edges.terms(2, sentence, which, is -> is.due("fleet of \"" + text + "\"", Sea.read(new Ships(), text), due));
    }

    private static void statements(Edges edges) {
        edges.of(2, "The text in SHELF d: how many STATEMENTS; the FAULT.", "one, and as many as a row has room for", is -> {
            is.due("s00;", Sea.read(new Ships(), "s00;"), 1);
            String many = "s00;s00;m000;m100;" + Sea.repeated("x01;", 20);
            is.due("98 bytes", Sea.read(new Ships(), many), 24);
            is.due("of shelf 0", readBy(0), 1);
            is.due("of shelf 7", readBy(7), 1);
        });
        text(edges, "A FLEET is read from bytes: STATEMENTS, each with ; behind", "without ; at the end", "s00;s00", -1007);
        text(edges, "A FLEET is read from bytes: STATEMENTS, each with ; behind", "without ; between", "s00s00;", -1003);
        text(edges, "A FLEET is read from bytes: STATEMENTS, each with ; behind", "two ;", "s00;;s00;", -1004);
        text(edges, "A FLEET is read from bytes: STATEMENTS, each with ; behind", "; ahead", ";s00;", -1000);
        text(edges, "s, KIND, FIGURE (digits): a SHIP more;", "least and greatest", "s00;s79;", 2);
        text(edges, "s, KIND, FIGURE (digits): a SHIP more;", "a digit too few", "s0;", -1002);
        text(edges, "s, KIND, FIGURE (digits): a SHIP more;", "a digit too many", "s000;", -1003);
        text(edges, "m, a SHIP, TRADE, TONGUE (digits): a man more;", "least and greatest", "s00;s00;s00;s00;s00;m000;m433;", 7);
        text(edges, "m, a SHIP, TRADE, TONGUE (digits): a man more;", "a digit too few", "s00;m00;", -1007);
        text(edges, "m, a SHIP, TRADE, TONGUE (digits): a man more;", "a digit too many", "s00;m0000;", -1008);
        text(edges, "x, two SHIPS (digits): they have a MEETING.", "in either order", "s00;s00;m000;m100;x01;x10;", 6);
        text(edges, "x, two SHIPS (digits): they have a MEETING.", "a digit too few", "s00;s00;m000;m100;x0;", -1020);
        text(edges, "x, two SHIPS (digits): they have a MEETING.", "a digit too many", "s00;s00;m000;m100;x010;", -1021);
        edges.terms(2, "x, two SHIPS (digits): they have a MEETING.", "as by meet", is -> {
            Ships sea = Sea.of("s00;s00;m000;m100;x10;");
            is.due("man(0, 0)", sea.man(0, 0), 1);
            is.due("man(1, 0)", sea.man(1, 0), 0);
            is.due("man(0, 3)", sea.man(0, 3), 1);
        });
    }

    private static int readBy(int d) {
        Ships sea = new Ships();
        Sea.text(sea, d, "s00;");
        return sea.fleet(d);
    }

    private static void atLeastOne(Edges edges) {
        edges.terms(2, "At least one STATEMENT.", "an empty row ends too early", is -> {
            Ships sea = new Ships();
            sea.row(0, 0, 0);
            is.due("fleet of an empty row", sea.fleet(0), -1000);
        });
        edges.terms(2, "At least one STATEMENT.", "also where there are ships", is -> {
            Ships sea = Sea.of("s00;m000;");
            sea.row(0, 0, 0);
            is.due("fleet of an empty row", sea.fleet(0), -1000);
        });
    }

    private static void bytesOfNoForm(Edges edges) {
        text(edges, FAULT_1, "no letter of a statement", "a00;", -1000);
        text(edges, FAULT_1, "a great letter", "S00;", -1000);
        text(edges, FAULT_1, "a digit in place of a letter", "s00;0", -1004);
        text(edges, FAULT_1, "a letter in place of the first digit", "sa0;", -1001);
        text(edges, FAULT_1, "a letter in place of the last digit", "s00;m00x;", -1007);
        text(edges, FAULT_1, "the sign below 0", "s0/;", -1002);
        text(edges, FAULT_1, "the sign above 9", "s0:;", -1002);
        text(edges, FAULT_1, "the sign below ;", "s00:", -1003);
        text(edges, FAULT_1, "the sign above ;", "s00<", -1003);
        text(edges, FAULT_1, "the sign below m", "l000;", -1000);
        text(edges, FAULT_1, "the sign above s", "t00;", -1000);
        text(edges, FAULT_1, "the sign above x", "y00;", -1000);
        text(edges, FAULT_1, "a space behind the end", "s00; ", -1004);
        edges.terms(2, FAULT_1, "bytes of 0, -1 and above 127", is -> {
            Ships sea = new Ships();
            Sea.bytes(sea, 0, 0);
            is.due("0", sea.fleet(0), -1000);
            Sea.bytes(sea, 0, 's', '0', -1, ';');
            is.due("-1", sea.fleet(0), -1002);
            Sea.bytes(sea, 0, 's', '0', '0' + 128, ';');
            is.due("a digit and 128", sea.fleet(0), -1002);
            Sea.bytes(sea, 0, 's', '0', '0', ';', 's' + 128);
            is.due("a letter and 128", sea.fleet(0), -1004);
        });
        edges.terms(2, FAULT_1, "the last byte of a full row", is -> {
            Ships sea = new Ships();
            is.due("byte 99", Sea.read(sea, Sea.repeated("s00;", 24) + "s00,"), -1099);
        });
    }

    private static void textsThatEndTooEarly(Edges edges) {
        text(edges, FAULT_1, "ends behind s", "s", -1001);
        text(edges, FAULT_1, "ends behind a digit of s", "s0", -1002);
        text(edges, FAULT_1, "ends ahead of ; of s", "s00", -1003);
        text(edges, FAULT_1, "ends behind m", "m", -1001);
        text(edges, FAULT_1, "ends ahead of the last digit of m", "m00", -1003);
        text(edges, FAULT_1, "ends ahead of ; of m", "m000", -1004);
        text(edges, FAULT_1, "ends behind x", "x", -1001);
        text(edges, FAULT_1, "ends ahead of ; of x", "x01", -1003);
        text(edges, FAULT_1, "a later one ends", "s00;m0", -1006);
        edges.terms(2, FAULT_1, "a full row ends too early", is -> {
            Ships sea = new Ships();
            is.due("100 bytes", Sea.read(sea, Sea.repeated("m000;", 19) + "s00;s"), -1100);
        });
    }

    private static void numbersOutOfRange(Edges edges) {
        text(edges, FAULT_2, "kind 8", "s80;", -2000);
        text(edges, FAULT_2, "kind 9", "s00;s90;", -2004);
        text(edges, FAULT_2, "trade 4", "s00;m040;", -2004);
        text(edges, FAULT_2, "tongue 4", "s00;m004;", -2004);
        text(edges, FAULT_2, "no ship at all for a man", "m000;", -2000);
        text(edges, FAULT_2, "one above the last ship for a man", "s00;m100;", -2004);
        text(edges, FAULT_2, "ship 9 for a man", "s00;m900;", -2004);
    }

    private static void shipsThatCannotMeet(Edges edges) {
        text(edges, FAULT_2, "no ships at x", "x01;", -2000);
        text(edges, FAULT_2, "one above the last ship at x", "s00;s00;m000;m100;x02;", -2018);
        text(edges, FAULT_2, "the same as the first one at x", "s00;s00;m000;m100;x20;", -2018);
        text(edges, FAULT_2, "one twice at x", "s00;s00;m000;m100;x11;", -2018);
        text(edges, FAULT_2, "the first one without men at x", "s00;s00;m100;x01;", -2013);
        text(edges, FAULT_2, "the other one without men at x", "s00;s00;m000;x01;", -2013);
        text(edges, FAULT_2, "both without men at x", "s00;s00;x01;", -2008);
    }

    private static void noRoom(Edges edges) {
        text(edges, FAULT_2, "a sixth ship", Sea.repeated("s00;", 6), -2020);
        text(edges, FAULT_2, "a thirteenth man", "s00;" + Sea.repeated("m000;", 13), -2064);
        edges.terms(2, FAULT_2, "no room beside what was there ahead", is -> {
            Ships sea = Sea.of("s00;s00;s00;s00;" + Sea.repeated("m000;", 11));
            is.due("a fifth and a sixth ship", Sea.read(sea, "s00;s00;"), -2004);
            is.due("a twelfth and a thirteenth man", Sea.read(sea, "m000;m000;"), -2005);
            is.due("one of each", Sea.read(sea, "s00;m000;"), 2);
        });
        edges.terms(2, "-2 no room", "fleet tells it by the statement's place, not by -2", is -> {
            is.due("a sixth ship", Sea.read(Sea.of(Sea.repeated("s00;", 5)), "s00;"), -2000);
            is.due("a thirteenth man", Sea.read(Sea.of("s00;" + Sea.repeated("m000;", 12)), "m000;"), -2000);
        });
    }

    private static void numbersOfFaults(Edges edges) {
        String sentence = "-1000 times the kind less the place.";
        text(edges, sentence, "kind 1, place 0", "?", -1000);
        text(edges, sentence, "kind 2, place 0", "s80;", -2000);
        text(edges, sentence, "kind 2, a far place", Sea.repeated("s00;", 5) + Sea.repeated("m000;", 12) + "x01;m500;", -2080);
        text(edges, sentence, "kind 1, a far place", Sea.repeated("s00;", 20) + "s00!", -1083);
    }

    private static void allOrNothing(Edges edges) {
        edges.terms(2, "Without FAULT all of it comes; with one nothing.", "all of it", is -> {
            Ships sea = new Ships();
            is.due("fleet", Sea.read(sea, "s12;s34;m001;m123;x01;"), 5);
            is.due("count(0)", sea.count(0), 2);
            is.due("count(1)", sea.count(1), 2);
            is.due("count(2)", sea.count(2), 1);
            is.due("ship(1, 1)", sea.ship(1, 1), 4);
            is.due("man(1, 0)", sea.man(1, 0), 0);
        });
        edges.terms(2, "Without FAULT all of it comes; with one nothing.", "nothing with a fault of kind 2 at the end", is -> {
            Ships sea = Sea.of("s11;s22;m000;m000;m111;x01;");
            String before = Sea.picture(sea, 3, 4);
            is.due("fleet", Sea.read(sea, "s33;m000;m200;x01;x02;m000;m040;"), -2027);
            sea.keep(7, 0, 0, 0);
            is.holds("all is as it was", before.equals(Sea.picture(sea, 3, 4)));
        });
        edges.terms(2, "Without FAULT all of it comes; with one nothing.", "nothing with a fault of kind 1 at the end", is -> {
            Ships sea = Sea.of("s11;s22;m000;m000;m111;x01;");
            String before = Sea.picture(sea, 3, 4);
            is.due("fleet", Sea.read(sea, "s33;m000;x01;m"), -1014);
            sea.keep(7, 0, 0, 0);
            is.holds("all is as it was", before.equals(Sea.picture(sea, 3, 4)));
        });
        edges.terms(2, "Without FAULT all of it comes; with one nothing.", "what was there stays, too", is -> {
            Ships sea = Sea.of("s11;m000;");
            is.due("fleet", Sea.read(sea, "s22;m111;"), 2);
            is.due("count(0)", sea.count(0), 2);
            is.due("man(0, 0)", sea.man(0, 0), 0);
            is.due("man(1, 0)", sea.man(1, 0), 1);
        });
    }

    private static void orderOfFaults(Edges edges) {
        String kinds = "kind 1 (of any place) goes ahead of kind 2";
        text(edges, kinds, "the first statement can't be, the last byte is wrong", "s80;s00,", -1007);
        text(edges, kinds, "the first statement can't be, the text ends too early", "m000;s00;x0", -1011);
        String sentence = "STATEMENTS are tried one behind the other, each on what those ahead of it made, "
            + "and the first that can't be done so is told.";
        text(edges, sentence, "a man ahead of his ship", "m000;s00;", -2000);
        text(edges, sentence, "a man behind his ship", "s00;m000;", 2);
        text(edges, sentence, "a meeting ahead of the second ship's man", "s00;s00;m000;x01;m100;", -2013);
        text(edges, sentence, "a meeting behind him", "s00;s00;m000;m100;x01;", 5);
        text(edges, sentence, "the first of two", "s00;m100;s80;", -2004);
        text(edges, sentence, "the first of two, the other way", "s00;s80;m100;", -2004);
        edges.terms(2, sentence, "each meeting on what the one ahead of it made", is -> {
            Ships sea = Sea.of("s00;s00;s00;m000;m100;m200;x01;x12;");
            is.due("man(0, 0)", sea.man(0, 0), 2);
            is.due("man(1, 0)", sea.man(1, 0), 0);
            is.due("man(2, 0)", sea.man(2, 0), 1);
        });
    }

    private static void refusals(Edges edges) {
        edges.of(2, REFUSALS, "-1: no such shelf", is -> {
            Ships sea = new Ships();
            is.due("fleet(-1)", sea.fleet(-1), -1);
            is.due("fleet(8)", sea.fleet(8), -1);
            is.due("fleet(MIN)", sea.fleet(Integer.MIN_VALUE), -1);
            is.due("fleet(MAX)", sea.fleet(Integer.MAX_VALUE), -1);
        });
        edges.of(2, REFUSALS, "-11: nothing is held", is -> {
            Ships sea = new Ships();
            is.due("fleet(0)", sea.fleet(0), -11);
            Sea.text(sea, 0, "s00;");
            sea.keep(0, 0, 0, 0);
            is.due("fleet(0) of what was taken away", sea.fleet(0), -11);
        });
        edges.of(2, REFUSALS, "-12: a captain, shorts, ints", is -> {
            Ships sea = new Ships();
            sea.keep(0, 1, 0, 0);
            is.due("a captain", sea.fleet(0), -12);
            Sea.row(sea, 0, Sea.SHORTS, 's', '0', '0', ';');
            is.due("shorts", sea.fleet(0), -12);
            Sea.row(sea, 0, Sea.INTS, 's', '0', '0', ';');
            is.due("ints", sea.fleet(0), -12);
            sea.row(0, Sea.SHORTS, 0);
            is.due("an empty row of shorts", sea.fleet(0), -12);
            is.due("count(0)", sea.count(0), 0);
        });
    }
}
