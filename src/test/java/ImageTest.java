/** Promises 24 to 26: image, restore, count. */
public final class ImageTest {
    private static final Check CHECK = new Check("ImageTest");

    public static void main(String[] args) {
        imageAndRestore();
        imageOfNothing();
        shelvesStay();
        count();
        CHECK.end();
    }

    private static void imageAndRestore() {
        Ships sea = Sea.of("s20;s30;m001;m010;m100;m122;x01;");
        CHECK.due("none", sea.restore(), -3);
        CHECK.due("taken", sea.image(), 1);
        sea.meet(0, 1);
        sea.meet(0, 1);
        Sea.read(sea, "s55;m233;m033;");
        sea.keep(0, 1, 6, 3);
        sea.commands(0, 0);
        CHECK.due("restored", sea.restore(), 1);
        CHECK.due("ships", sea.count(0), 2);
        CHECK.due("men", sea.count(1), 4);
        CHECK.due("meetings", sea.count(2), 1);
        CHECK.due("kind", sea.ship(0, 0), 2);
        CHECK.due("figure", sea.ship(0, 1), 0);
        CHECK.due("who", sea.ship(0, 3), 1 + 4);
        CHECK.due("since", sea.man(2, 3), 1);
        CHECK.due("since of one who moved later", sea.man(0, 3), 0);
        CHECK.due("sailed", sea.sailed(0), 2 + 4);
        CHECK.due("never", sea.never(), 2);
        sea.meet(0, 1);
        CHECK.due("restored again", sea.restore(), 1);
        CHECK.due("as it was, again", sea.ship(0, 3), 1 + 4);
        sea.meet(0, 1);
        CHECK.due("taken anew", sea.image(), 2);
        sea.meet(0, 1);
        CHECK.due("the new one", sea.restore(), 2);
        CHECK.due("a man who comes now has the next number", Sea.read(sea, "m033;"), 1);
        CHECK.due("and what is his", sea.man(4, 1), 3);
    }

    private static void imageOfNothing() {
        Ships sea = new Ships();
        CHECK.due("taken", sea.image(), 0);
        Sea.read(sea, "s00;s00;m011;m111;x01;");
        CHECK.due("restored", sea.restore(), 0);
        CHECK.due("no ships", sea.count(0), 0);
        CHECK.due("no men", sea.man(0, 0), -1);
        CHECK.due("read again", Sea.read(sea, "s00;s00;m011;m111;"), 4);
        CHECK.due("since is 0", sea.man(0, 3), 0);
        CHECK.due("who has sailed", sea.sailed(0), 0);
    }

    private static void shelvesStay() {
        Ships sea = new Ships();
        sea.keep(0, 1, 1, 3);
        sea.image();
        sea.keep(0, 1, 1, 4);
        Sea.bytes(sea, 1, 5);
        sea.restore();
        CHECK.due("the captain", sea.pay(0), 10);
        CHECK.due("the row", Sea.element(sea, 1, 0), 5);
    }

    private static void count() {
        Ships sea = Sea.of("s00;s00;s00;s00;m000;m100;m000;m000;x01;x10;x01;");
        CHECK.due("ships", sea.count(0), 4);
        CHECK.due("men", sea.count(1), 4);
        CHECK.due("meetings", sea.count(2), 3);
        CHECK.due("without men", sea.count(3), 2);
        CHECK.due("most", sea.count(4), 3);
        CHECK.due("5", sea.count(5), -1);
        CHECK.due("-1", sea.count(-1), -1);
        CHECK.due("MIN", sea.count(Integer.MIN_VALUE), -1);
        CHECK.due("most of none", Sea.of("s00;").count(4), 0);
    }
}
