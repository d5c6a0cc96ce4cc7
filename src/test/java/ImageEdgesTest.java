/** Promises 24 to 26: image, restore, count. */
public final class ImageEdgesTest {
    public static void main(String[] args) {
        Edges edges = new Edges("ImageEdgesTest");
        list(edges);
        edges.run();
    }

    static void list(Edges edges) {
        image(edges);
        restore(edges);
        shelves(edges);
        count(edges);
    }

    private static void image(Edges edges) {
        String sentence = "THE IMAGE is taken: MEETINGS.";
        edges.of(24, sentence, "of nothing: 0", is -> is.due("image()", new Ships().image(), 0));
        edges.of(24, sentence, "how many there were", is -> {
            Ships sea = Sea.of("s00;s00;m000;m100;x01;x01;");
            is.due("image()", sea.image(), 2);
            sea.meet(0, 1);
            is.due("image(), again", sea.image(), 3);
        });
        edges.of(24, sentence, "the last one counts", is -> {
            Ships sea = Sea.of("s00;s00;m000;m100;");
            sea.image();
            sea.meet(0, 1);
            sea.image();
            sea.meet(0, 1);
            is.due("restore()", sea.restore(), 1);
            is.due("man(0, 0)", sea.man(0, 0), 1);
        });
        edges.of(24, sentence, "nothing else is changed by it", is -> {
            Ships sea = Sea.of("s12;s34;m001;m123;x01;");
            String before = Sea.picture(sea, 2, 2);
            sea.image();
            is.holds("all is as it was", before.equals(Sea.picture(sea, 2, 2)));
        });
    }

    private static void restore(Edges edges) {
        String own = "THE IMAGE is RESTORED: MEETINGS.";
        edges.of(25, own, "fewer meetings than now", is -> {
            Ships sea = Sea.of("s00;s00;m000;m100;x01;");
            sea.image();
            sea.meet(0, 1);
            sea.meet(0, 1);
            is.due("restore()", sea.restore(), 1);
            is.due("count(2)", sea.count(2), 1);
        });
        edges.of(25, own, "of nothing: 0, and all is gone", is -> {
            Ships sea = new Ships();
            sea.image();
            Sea.read(sea, "s11;s00;m011;m111;x01;");
            is.due("restore()", sea.restore(), 0);
            is.due("count(0)", sea.count(0), 0);
            is.due("ship(0, 0)", sea.ship(0, 0), -1);
            is.due("man(0, 0)", sea.man(0, 0), -1);
            is.due("who comes now begins anew", Sea.read(sea, "s00;s00;m000;m100;"), 4);
            is.due("man(0, 3)", sea.man(0, 3), 0);
            is.due("sailed(0)", sea.sailed(0), 0);
            is.due("ship(0, 3)", sea.ship(0, 3), 1);
        });
        edges.of(25, "-3: there is none.", "before one is taken", is -> {
            Ships sea = Sea.of("s00;s00;m000;m100;x01;");
            is.due("restore()", sea.restore(), -3);
            is.due("count(2)", sea.count(2), 1);
            is.due("restore() of a new object", new Ships().restore(), -3);
            sea.image();
            is.due("restore() behind image()", sea.restore(), 1);
        });
        String terms = "THE IMAGE: all that there is, but SHELVES (and THE IMAGE); RESTORED all is as it was then.";
        edges.terms(25, terms, "ships, captains, men, since, meetings, who sailed with whom", is -> {
            Ships sea = Sea.of("s20;s30;m001;m010;m100;m122;x01;");
            String before = Sea.picture(sea, 3, 6);
            sea.image();
            sea.meet(0, 1);
            sea.meet(1, 0);
            Sea.read(sea, "s55;m233;m033;");
            sea.keep(0, 1, 6, 3);
            sea.commands(0, 0);
            is.holds("all is changed", !before.equals(Sea.picture(sea, 3, 6)));
            sea.restore();
            is.holds("all is as it was", before.equals(Sea.picture(sea, 3, 6)));
        });
        edges.terms(25, terms, "the image stays for another time", is -> {
            Ships sea = Sea.of("s00;s00;m000;m100;");
            sea.image();
            for (int i = 0; i < 3; i++) {
                sea.meet(0, 1);
                is.due("restore(), time " + i, sea.restore(), 0);
                is.due("man(0, 0), time " + i, sea.man(0, 0), 0);
            }
        });
        edges.terms(25, terms, "a full fleet", is -> {
            Ships sea = Sea.of(Sea.repeated("s00;", 5) + Sea.repeated("m000;m100;m200;", 4));
            sea.image();
            sea.meet(0, 1);
            sea.restore();
            is.due("count(0)", sea.count(0), 5);
            is.due("ship(0, 3)", sea.ship(0, 3), 1 + 8 + 64 + 512);
            is.due("a thirteenth man", Sea.read(sea, "m000;"), -2000);
        });
    }

    private static void shelves(Edges edges) {
        String sentence = "when THE IMAGE is RESTORED, SHELVES stay as they are.";
        edges.terms(25, sentence, "a captain, a row, nothing", is -> {
            Ships sea = new Ships();
            sea.keep(0, 1, 1, 3);
            Sea.bytes(sea, 1, 5);
            sea.keep(2, 1, 1, 3);
            sea.image();
            sea.keep(0, 1, 1, 4);
            Sea.row(sea, 1, Sea.INTS, 6, 70000);
            sea.keep(2, 0, 0, 0);
            sea.restore();
            is.due("the captain", sea.pay(0), 10);
            is.due("the row", Sea.element(sea, 1, 1), 70000);
            is.due("nothing", sea.pay(2), -11);
        });
        edges.terms(24, "THE IMAGE: all that there is, but SHELVES (and THE IMAGE)", "a ship's captain is of the image, a shelf's is not", is -> {
            Ships sea = Sea.of("s00;");
            sea.keep(0, 1, 1, 1);
            sea.commands(0, 0);
            sea.image();
            sea.keep(0, 1, 2, 2);
            sea.commands(0, 0);
            sea.restore();
            is.due("ship(0, 0)", sea.ship(0, 0), 1);
            is.due("pay(0)", sea.pay(0), 5);
        });
    }

    private static void count(Edges edges) {
        String sentence = "0 SHIPS, 1 MEN, 2 MEETINGS, 3 SHIPS without MEN, 4 the most MEN aboard one SHIP; -1 for others.";
        edges.of(26, sentence, "none of all", is -> counts(is, new Ships(), 0, 0, 0, 0, 0));
        edges.of(26, sentence, "ships without men", is -> counts(is, Sea.of(Sea.repeated("s00;", 5)), 5, 0, 0, 5, 0));
        edges.of(26, sentence, "all men aboard the first ship, the last ship", is -> {
            counts(is, Sea.of("s00;s00;" + Sea.repeated("m000;", 12)), 2, 12, 0, 1, 12);
            counts(is, Sea.of("s00;s00;" + Sea.repeated("m100;", 12)), 2, 12, 0, 1, 12);
        });
        edges.of(26, sentence, "as many aboard each", is -> counts(is, Sea.of("s00;s00;m000;m100;x01;"), 2, 2, 1, 0, 1));
        edges.of(26, sentence, "-1 for others", is -> {
            Ships sea = Sea.of("s00;m000;");
            for (int what : new int[] {-1, 5, Integer.MIN_VALUE, Integer.MAX_VALUE}) {
                is.due("count(" + what + ")", sea.count(what), -1);
            }
        });
    }

    private static void counts(Edges.Edge is, Ships sea, int... due) {
        for (int what = 0; what < 5; what++) {
            is.due("count(" + what + ")", sea.count(what), due[what]);
        }
    }
}
