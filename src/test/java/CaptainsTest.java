/** Terms: whom a captain of each kind gives. */
public final class CaptainsTest {
    private static final Check CHECK = new Check("CaptainsTest");

    public static void main(String[] args) {
        gives("captain", "s00;m000;m000;", 0, 0);
        gives("captain, man 0 elsewhere", "s00;s00;m100;m000;m000;", 0, 1);
        gives("lot", "s14;m000;m000;m000;", 0, 1);
        gives("lot, by places, not by numbers", "s00;s14;m000;m100;m000;m100;m100;", 1, 3);
        gives("lot, figure as many as they are", "s13;m000;m000;m000;", 0, 0);
        gives("lot, figure 0", "s10;m000;m000;", 0, 0);
        gives("new, all alike", "s20;m000;m000;m000;", 0, 2);
        gives("new, one came", "s20;s00;m100;m000;m000;x01;", 0, 0);
        gives("old, all alike", "s30;m000;m000;m000;", 0, 0);
        gives("old, one came", "s30;s00;m000;m000;m100;x01;", 0, 1);
        gives("old, the one who came first", "s30;s00;m000;m000;m100;x01;x01;", 0, 2);
        gives("want", "s41;m010;m010;m020;m000;", 0, 2);
        gives("want, figure modulo 4", "s45;m010;m000;", 0, 1);
        gives("want, 9 is 1", "s49;m010;m000;", 0, 1);
        gives("want, all are wanted", "s42;s00;m120;m020;m020;", 0, 1);
        gives("best, counted of all aboard", "s51;m010;m001;m002;m012;m010;m010;", 0, 2);
        gives("best, of several the least", "s51;m010;m001;m002;", 0, 1);
        gives("best, all are wanted", "s51;m010;m011;m011;", 0, 1);
        gives("best, figure modulo 4", "s58;m001;m011;m010;m010;", 0, 1);
        gives("told", "s62;m000;m000;m000;", 0, 2);
        gives("told, he is elsewhere", "s60;s00;m100;m000;m000;", 0, 1);
        gives("told, nobody of that number", "s69;m000;m000;", 0, 0);
        gives("told 0", "s60;m000;m000;", 0, 0);
        gives("keep", "s70;m000;m000;m000;", 0, 1);
        gives("keep one alone", "s70;m000;", 0, 0);
        gives("keep another one", "s72;m000;m000;m000;", 0, 0);
        gives("keep, only a newcomer beside him", "s71;s00;m000;m000;m100;x01;x01;", 0, 0);
        gives("keep, the oldest of the others", "s73;s00;m000;m000;m100;m000;x01;x01;", 0, 2);
        gives("nobody aboard", "s00;", 0, -4);
        for (int kind = 0; kind < 8; kind++) {
            gives("nobody aboard, kind " + kind, "s" + kind + "5;s00;m100;", 0, -4);
        }
        CHECK.end();
    }

    private static void gives(String what, String text, int ship, int due) {
        CHECK.due(what + ": " + text, Sea.of(text).ship(ship, 4), due);
    }
}
