/** Promises 13 to 17: sailed, never, mixed, mixesMost, lacks. */
public final class CompanyTest {
    private static final Check CHECK = new Check("CompanyTest");

    public static void main(String[] args) {
        sailed();
        sailedByStatements();
        never();
        mixed();
        mixesMost();
        mixesLess();
        lacks();
        CHECK.end();
    }

    private static void sailed() {
        Ships sea = Sea.of("s00;s00;m000;m000;m100;m100;");
        CHECK.due("0 at first", sea.sailed(0), 2);
        CHECK.due("3 at first", sea.sailed(3), 4);
        sea.meet(0, 1);
        CHECK.due("0 with 1 and 3", sea.sailed(0), 2 + 8);
        CHECK.due("1 with 0 and 2", sea.sailed(1), 1 + 4);
        CHECK.due("2 with 3 and 1", sea.sailed(2), 8 + 2);
        CHECK.due("3 with 2 and 0", sea.sailed(3), 4 + 1);
        sea.meet(0, 1);
        // 1 goes, 0 comes back: nobody new for 2, who has sailed with 1 and 3, and now with 0
        CHECK.due("behind another one", sea.sailed(2), 8 + 2 + 1);
        CHECK.due("man 4", sea.sailed(4), -1);
        CHECK.due("man -1", sea.sailed(-1), -1);
        CHECK.due("man 12", sea.sailed(12), -1);
    }

    private static void sailedByStatements() {
        Ships sea = Sea.of("s00;s00;m000;m100;x01;m000;m100;");
        CHECK.due("the changed ones never met", sea.sailed(0), 8);
        CHECK.due("who came behind the meeting", sea.sailed(2), 2);
        CHECK.due("never", sea.never(), 4);
        Ships later = Sea.of("s00;s00;m000;m100;m000;x01;");
        CHECK.due("who stayed has sailed with both", later.sailed(2), 3);
        CHECK.due("who went, with one", later.sailed(0), 4);
    }

    private static void never() {
        Ships sea = Sea.of("s00;s00;m000;m000;m100;m100;");
        CHECK.due("at first", sea.never(), 4);
        sea.meet(0, 1);
        CHECK.due("behind one", sea.never(), 2);
        sea.meet(0, 1);
        CHECK.due("behind two", sea.never(), 0);
        CHECK.due("nobody", Sea.of("s00;").never(), 0);
        CHECK.due("one", Sea.of("s00;m000;").never(), 0);
        CHECK.due("all aboard one", Sea.of("s00;" + Sea.repeated("m000;", 12)).never(), 0);
        CHECK.due("five alone", Sea.of("s00;s00;s00;s00;s00;m000;m100;m200;m300;m400;").never(), 10);
    }

    private static void mixed() {
        CHECK.due("nobody", new Ships().mixed(), 0);
        CHECK.due("alike", Sea.of("s00;m001;m011;m021;").mixed(), 0);
        CHECK.due("unlike", Sea.of("s00;m000;m001;m002;m003;").mixed(), 6);
        CHECK.due("two and one", Sea.of("s00;m000;m000;m001;").mixed(), 2);
        CHECK.due("two ships", Sea.of("s00;s00;m000;m101;m000;m100;").mixed(), 1);
        CHECK.due("trades do not matter", Sea.of("s00;m000;m010;").mixed(), 0);
    }

    private static void mixesMost() {
        CHECK.due("no ships", new Ships().mixesMost(), -4);
        CHECK.due("one ship", Sea.of("s00;m000;").mixesMost(), -4);
        CHECK.due("one with men", Sea.of("s00;s00;s00;m200;").mixesMost(), -4);
        CHECK.due("of several the least", Sea.of("s00;s00;s00;m000;m100;m200;").mixesMost(), 1);
        CHECK.due("only one can be", Sea.of("s00;s00;s00;s00;s00;m301;m401;").mixesMost(), 34);
        // 0 and 1 are alike: only a meeting with ship 2 mixes
        Ships sea = Sea.of("s00;s00;s00;m000;m000;m100;m100;m201;m201;");
        CHECK.due("the one that mixes", sea.mixesMost(), 2);
        CHECK.due("nothing stays", sea.mixed(), 0);
        // now every ship gives a man of tongue 0: nothing mixes more or less
        sea.meet(0, 2);
        CHECK.due("mixed now", sea.mixed(), 2);
        CHECK.due("by the captains as they are", sea.mixesMost(), 1);
    }

    private static void mixesLess() {
        // the only meeting brings like to like
        Ships sea = Sea.of("s60;s63;m000;m001;m100;m101;x01;");
        CHECK.due("mixed before", sea.mixed(), 0);
        Ships apart = Sea.of("s60;s63;m000;m001;m100;m101;");
        CHECK.due("mixed now", apart.mixed(), 2);
        CHECK.due("it is told though it is less", apart.mixesMost(), 1);
    }

    private static void lacks() {
        Ships sea = Sea.of("s00;s00;s00;m000;m010;m120;");
        CHECK.due("trade 0", sea.lacks(0), 2 + 4);
        CHECK.due("trade 1", sea.lacks(1), 2 + 4);
        CHECK.due("trade 2", sea.lacks(2), 1 + 4);
        CHECK.due("trade 3", sea.lacks(3), 7);
        CHECK.due("trade 4", sea.lacks(4), -1);
        CHECK.due("trade -1", sea.lacks(-1), -1);
        CHECK.due("no ships", new Ships().lacks(0), 0);
        sea.meet(0, 1);
        CHECK.due("behind a meeting", sea.lacks(0), 1 + 4);
    }
}
