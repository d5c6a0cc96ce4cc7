/** Promises 1 to 5: a new object, fleet, ship, man, commands. */
public final class FleetsTest {
    private static final Check CHECK = new Check("FleetsTest");

    public static void main(String[] args) {
        newObject();
        texts();
        faultsOfForm();
        faultsOfStatements();
        roomForShipsAndMen();
        nothingComesWithAFault();
        refusalsOfFleet();
        ship();
        man();
        commands();
        CHECK.end();
    }

    private static void newObject() {
        Ships sea = new Ships();
        for (int what = 0; what < 5; what++) {
            CHECK.due("new: count " + what, sea.count(what), 0);
            CHECK.due("new: ship 0", sea.ship(0, what), -1);
            CHECK.due("new: man 0", sea.man(0, what), -1);
        }
        for (int d = 0; d < 8; d++) {
            CHECK.due("new: shelf " + d, sea.pay(d), -11);
        }
        CHECK.due("new: never", sea.never(), 0);
        CHECK.due("new: restore", sea.restore(), -3);
    }

    private static void texts() {
        Ships sea = new Ships();
        CHECK.due("two ships, three men", Sea.read(sea, "s12;s79;m013;m132;m103;"), 5);
        CHECK.due("ships", sea.count(0), 2);
        CHECK.due("men", sea.count(1), 3);
        CHECK.due("kind", sea.ship(1, 0), 7);
        CHECK.due("figure", sea.ship(1, 1), 9);
        CHECK.due("trade", sea.man(1, 1), 3);
        CHECK.due("tongue", sea.man(1, 2), 2);
        CHECK.due("the text stays", sea.fleet(7), 5);
        CHECK.due("the second text's ships come behind", sea.count(0), 4);
        CHECK.due("its men go to the ships of the told numbers", sea.ship(0, 3), 1 + 8);
        CHECK.due("a meeting of ships that are there", Sea.read(sea, "x10;"), 1);
        CHECK.due("meetings", sea.count(2), 1);
        CHECK.due("since", sea.man(0, 3), 1);
        CHECK.due("a later man", Sea.read(sea, "m000;"), 1);
        CHECK.due("his since is 0 though there were meetings", sea.man(6, 3), 0);
        CHECK.due("signs keep their lowest bits", signsAbove(), 1);
    }

    private static int signsAbove() {
        Ships sea = new Ships();
        Sea.bytes(sea, 0, 's' + 256, '0' + 512, '0' - 256, ';' + 65536);
        return sea.fleet(0);
    }

    private static void faultsOfForm() {
        fault("", -1000);
        fault("z", -1000);
        fault(";", -1000);
        fault("S00;", -1000);
        fault(" s00;", -1000);
        fault("0", -1000);
        fault("s", -1001);
        fault("s0", -1002);
        fault("s00", -1003);
        fault("m", -1001);
        fault("m000", -1004);
        fault("x01", -1003);
        fault("s;", -1001);
        fault("sa0;", -1001);
        fault("s0/;", -1002);
        fault("s0:;", -1002);
        fault("s000;", -1003);
        fault("m00;", -1003);
        fault("m0000;", -1004);
        fault("x012;", -1003);
        fault("s00;;", -1004);
        fault("s00; ", -1004);
        fault("s00;s", -1005);
        fault("s00;m0000", -1008);
        fault("s00;" + (char) 200, -1004);
        fault("s0" + (char) 0xb0 + ";", -1002);
    }

    private static void faultsOfStatements() {
        fault("s80;", -2000);
        fault("s90;", -2000);
        fault("m000;", -2000);
        fault("x01;", -2000);
        fault("s00;m100;", -2004);
        fault("s00;m040;", -2004);
        fault("s00;m004;", -2004);
        fault("s00;m000;x01;", -2009);
        fault("s00;m000;x00;", -2009);
        fault("s00;s00;m000;x01;", -2013);
        fault("s00;s00;m000;x10;", -2013);
        fault("s00;s00;m000;m100;x02;", -2018);
        fault("s00;s00;m000;m100;x01;x11;", -2022);
        fault("s80;s81;", -2000);
        fault("s80;s0", -1006);
        fault("m000;s00;z", -1009);
        fault("x01;s00;s00;", -2000);
    }

    private static void roomForShipsAndMen() {
        Ships sea = new Ships();
        CHECK.due("five ships", Sea.read(sea, Sea.repeated("s00;", 5)), 5);
        CHECK.due("a sixth", Sea.read(sea, "s00;"), -2000);
        fault(Sea.repeated("s00;", 6), -2020);
        Ships men = new Ships();
        CHECK.due("twelve men", Sea.read(men, "s00;" + Sea.repeated("m000;", 12)), 13);
        CHECK.due("all aboard", men.ship(0, 3), 4095);
        CHECK.due("a thirteenth", Sea.read(men, "m000;"), -2000);
        fault("s00;" + Sea.repeated("m000;", 13), -2064);
        Ships full = new Ships();
        CHECK.due("a text cut in its last statement", Sea.read(full, Sea.repeated("s00;", 5) + Sea.repeated("m000;", 12) + "m10"), -1083);
        CHECK.due("24 statements", Sea.read(full, "s00;s00;m000;m100;" + Sea.repeated("x01;", 20)), 24);
        CHECK.due("20 meetings", full.count(2), 20);
    }

    private static void nothingComesWithAFault() {
        Ships sea = Sea.of("s00;s00;m000;m100;x01;");
        CHECK.due("fault at the end", Sea.read(sea, "s11;m200;x02;m300;"), -2013);
        CHECK.due("no ship came", sea.count(0), 2);
        CHECK.due("no man came", sea.count(1), 2);
        CHECK.due("no meeting was", sea.count(2), 1);
        CHECK.due("man 0 is where he was", sea.man(0, 0), 1);
        CHECK.due("since is as it was", sea.man(0, 3), 1);
        CHECK.due("nobody has sailed more", sea.sailed(0), 0);
        CHECK.due("the text stays", Sea.element(sea, 7, 0), 's');
    }

    private static void refusalsOfFleet() {
        Ships sea = new Ships();
        CHECK.due("fleet(-1)", sea.fleet(-1), -1);
        CHECK.due("fleet(8)", sea.fleet(8), -1);
        CHECK.due("fleet(MIN)", sea.fleet(Integer.MIN_VALUE), -1);
        CHECK.due("fleet of nothing", sea.fleet(0), -11);
        sea.keep(0, 1, 0, 0);
        CHECK.due("fleet of a captain", sea.fleet(0), -12);
        Sea.row(sea, 0, Sea.SHORTS, 's', '0', '0', ';');
        CHECK.due("fleet of shorts", sea.fleet(0), -12);
        Sea.row(sea, 0, Sea.INTS, 's', '0', '0', ';');
        CHECK.due("fleet of ints", sea.fleet(0), -12);
    }

    private static void ship() {
        Ships sea = Sea.of("s53;s62;m000;m100;m000;");
        CHECK.due("kind", sea.ship(0, 0), 5);
        CHECK.due("figure", sea.ship(0, 1), 3);
        CHECK.due("how many", sea.ship(0, 2), 2);
        CHECK.due("who", sea.ship(0, 3), 5);
        CHECK.due("gives", sea.ship(0, 4), 0);
        CHECK.due("who, of the other", sea.ship(1, 3), 2);
        CHECK.due("what -1", sea.ship(0, -1), -1);
        CHECK.due("what 5", sea.ship(0, 5), -1);
        CHECK.due("ship -1", sea.ship(-1, 0), -1);
        CHECK.due("ship 2", sea.ship(2, 0), -1);
        CHECK.due("ship 5", sea.ship(5, 0), -1);
        CHECK.due("ship MAX", sea.ship(Integer.MAX_VALUE, 3), -1);
        Ships empty = Sea.of("s00;");
        CHECK.due("how many of nobody", empty.ship(0, 2), 0);
        CHECK.due("who of nobody", empty.ship(0, 3), 0);
        CHECK.due("gives nobody", empty.ship(0, 4), -4);
    }

    private static void man() {
        Ships sea = Sea.of("s00;s00;m123;m031;x01;x10;");
        CHECK.due("ship", sea.man(0, 0), 1);
        CHECK.due("trade", sea.man(0, 1), 2);
        CHECK.due("tongue", sea.man(0, 2), 3);
        CHECK.due("since", sea.man(0, 3), 2);
        CHECK.due("what -1", sea.man(0, -1), -1);
        CHECK.due("what 4", sea.man(0, 4), -1);
        CHECK.due("man -1", sea.man(-1, 0), -1);
        CHECK.due("man 2", sea.man(2, 0), -1);
        CHECK.due("man 12", sea.man(12, 0), -1);
    }

    private static void commands() {
        Ships sea = Sea.of("s00;s00;m000;m000;m100;");
        sea.keep(3, 1, 6, 1);
        CHECK.due("told commands", sea.commands(3, 0), 0);
        CHECK.due("kind", sea.ship(0, 0), 6);
        CHECK.due("figure", sea.ship(0, 1), 1);
        CHECK.due("gives", sea.ship(0, 4), 1);
        CHECK.due("the other ship's is as he was", sea.ship(1, 0), 0);
        CHECK.due("he is still on the shelf", sea.pay(3), 5);
        sea.keep(3, 1, 2, 4);
        CHECK.due("another one on the shelf is not on the ship", sea.ship(0, 0), 6);
        sea.keep(3, 0, 0, 0);
        CHECK.due("nor is nothing", sea.ship(0, 1), 1);
        CHECK.due("commands of nothing", sea.commands(3, 0), -11);
        CHECK.due("no such ship goes ahead", sea.commands(3, 2), -1);
        CHECK.due("ship -1", sea.commands(3, -1), -1);
        CHECK.due("shelf 8", sea.commands(8, 0), -1);
        CHECK.due("shelf -1", sea.commands(-1, 0), -1);
        sea.row(3, 0, 4);
        CHECK.due("commands of a row", sea.commands(3, 0), -12);
        CHECK.due("no such ship, a row", sea.commands(3, 4), -1);
        CHECK.due("refused calls change nothing", sea.ship(0, 0), 6);
    }

    private static void fault(String text, int due) {
        Ships sea = new Ships();
        CHECK.due("fleet of \"" + text + "\"", Sea.read(sea, text), due);
        CHECK.due("ships behind \"" + text + "\"", sea.count(0), 0);
        CHECK.due("men behind \"" + text + "\"", sea.count(1), 0);
    }
}
