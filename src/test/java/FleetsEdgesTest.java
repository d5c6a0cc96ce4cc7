/** Promises 3 to 5: ship, man, commands. */
public final class FleetsEdgesTest {
    private static final int MIN = Integer.MIN_VALUE;
    private static final int MAX = Integer.MAX_VALUE;

    public static void main(String[] args) {
        Edges edges = new Edges("FleetsEdgesTest");
        list(edges);
        edges.run();
    }

    static void list(Edges edges) {
        ship(edges);
        man(edges);
        commands(edges);
        refusalsOfCommands(edges);
    }

    private static void ship(Edges edges) {
        String sentence = "Of a SHIP: KIND (what 0), FIGURE (1), how many aboard (2), who (3, bits), whom it GIVES (4; -4 nobody is aboard).";
        edges.of(3, sentence, "a ship with men", is -> {
            Ships sea = Sea.of("s00;s28;m100;m000;m100;");
            int[] due = {2, 8, 2, 1 + 4, 2};
            for (int what = 0; what < 5; what++) {
                is.due("ship(1, " + what + ")", sea.ship(1, what), due[what]);
            }
        });
        edges.of(3, sentence, "nobody aboard, of each kind", is -> {
            for (int kind = 0; kind < 8; kind++) {
                Ships sea = Sea.of("s" + kind + "3;s00;m100;");
                int[] due = {kind, 3, 0, 0, -4};
                for (int what = 0; what < 5; what++) {
                    is.due("kind " + kind + ", ship(0, " + what + ")", sea.ship(0, what), due[what]);
                }
            }
        });
        edges.of(3, sentence, "all twelve aboard", is -> {
            Ships sea = Sea.of("s29;" + Sea.repeated("m000;", 12));
            int[] due = {2, 9, 12, 4095, 11};
            for (int what = 0; what < 5; what++) {
                is.due("ship(0, " + what + ")", sea.ship(0, what), due[what]);
            }
        });
        edges.of(3, "(4; -4 nobody is aboard). -1.", "no such ship", is -> {
            Ships sea = Sea.of("s00;s00;m000;");
            is.due("ship(-1, 0)", sea.ship(-1, 0), -1);
            is.due("ship(2, 0)", sea.ship(2, 0), -1);
            is.due("ship(2, 4)", sea.ship(2, 4), -1);
            is.due("ship(MIN, 2)", sea.ship(MIN, 2), -1);
            is.due("ship(MAX, 3)", sea.ship(MAX, 3), -1);
        });
        edges.of(3, "(4; -4 nobody is aboard). -1.", "no such what", is -> {
            Ships sea = Sea.of("s00;s00;m000;");
            is.due("ship(0, -1)", sea.ship(0, -1), -1);
            is.due("ship(0, 5)", sea.ship(0, 5), -1);
            is.due("ship(1, 5), nobody aboard", sea.ship(1, 5), -1);
            is.due("ship(0, MIN)", sea.ship(0, MIN), -1);
            is.due("ship(0, MAX)", sea.ship(0, MAX), -1);
        });
    }

    private static void man(Edges edges) {
        String sentence = "Of a man: his SHIP (what 0), TRADE (1), TONGUE (2), SINCE (3). -1.";
        edges.of(4, sentence, "the first and the last", is -> {
            Ships sea = Sea.of("s00;s00;m012;m121;x01;x01;x01;");
            int[] first = {1, 1, 2, 3};
            int[] last = {0, 2, 1, 3};
            for (int what = 0; what < 4; what++) {
                is.due("man(0, " + what + ")", sea.man(0, what), first[what]);
                is.due("man(1, " + what + ")", sea.man(1, what), last[what]);
            }
        });
        edges.of(4, sentence, "-1: no such man", is -> {
            Ships sea = Sea.of("s00;m000;m000;");
            is.due("man(-1, 0)", sea.man(-1, 0), -1);
            is.due("man(2, 0)", sea.man(2, 0), -1);
            is.due("man(12, 3)", sea.man(12, 3), -1);
            is.due("man(MIN, 1)", sea.man(MIN, 1), -1);
            is.due("man(MAX, 2)", sea.man(MAX, 2), -1);
        });
        edges.of(4, sentence, "-1: no such what", is -> {
            Ships sea = Sea.of("s00;m000;");
            is.due("man(0, -1)", sea.man(0, -1), -1);
            is.due("man(0, 4)", sea.man(0, 4), -1);
            is.due("man(0, MIN)", sea.man(0, MIN), -1);
            is.due("man(0, MAX)", sea.man(0, MAX), -1);
        });
    }

    private static void commands(Edges edges) {
        String sentence = "The CAPTAIN on SHELF d is that of a SHIP now: 0.";
        edges.of(5, sentence, "of that ship alone, the men stay", is -> {
            Ships sea = Sea.of("s15;s16;m000;m000;m100;");
            sea.keep(7, 1, 6, 1);
            is.due("commands(7, 0)", sea.commands(7, 0), 0);
            int[] first = {6, 1, 2, 3, 1};
            int[] other = {1, 6, 1, 4, 2};
            for (int what = 0; what < 5; what++) {
                is.due("ship(0, " + what + ")", sea.ship(0, what), first[what]);
                is.due("ship(1, " + what + ")", sea.ship(1, what), other[what]);
            }
        });
        edges.of(5, sentence, "he stays when the shelf gets another", is -> {
            Ships sea = Sea.of("s00;");
            sea.keep(0, 1, 4, 2);
            sea.commands(0, 0);
            sea.keep(0, 1, 5, 3);
            is.due("ship(0, 0)", sea.ship(0, 0), 4);
            is.due("ship(0, 1)", sea.ship(0, 1), 2);
            sea.row(0, 0, 1);
            is.due("ship(0, 0), a row on the shelf", sea.ship(0, 0), 4);
        });
        edges.of(5, sentence, "a ship without men, the last ship, the first shelf", is -> {
            Ships sea = Sea.of("s00;s00;s00;s00;s00;m000;");
            sea.keep(0, 1, 7, 9);
            is.due("commands(0, 4)", sea.commands(0, 4), 0);
            is.due("ship(4, 0)", sea.ship(4, 0), 7);
            is.due("ship(4, 1)", sea.ship(4, 1), 9);
        });
    }

    private static void refusalsOfCommands(Edges edges) {
        String sentence = "-1, -11, -12 (a ROW).";
        edges.of(5, sentence, "-1: no such shelf", is -> {
            Ships sea = Sea.of("s00;");
            is.due("commands(-1, 0)", sea.commands(-1, 0), -1);
            is.due("commands(8, 0)", sea.commands(8, 0), -1);
            is.due("commands(MIN, 0)", sea.commands(MIN, 0), -1);
            is.due("commands(MAX, 0)", sea.commands(MAX, 0), -1);
        });
        edges.of(5, sentence, "-1: no such ship", is -> {
            Ships sea = Sea.of("s00;s00;");
            sea.keep(0, 1, 1, 1);
            is.due("commands(0, -1)", sea.commands(0, -1), -1);
            is.due("commands(0, 2)", sea.commands(0, 2), -1);
            is.due("commands(0, MIN)", sea.commands(0, MIN), -1);
            is.due("commands(0, MAX)", sea.commands(0, MAX), -1);
        });
        edges.of(5, sentence, "-1 ahead of -11 and -12", is -> {
            Ships sea = Sea.of("s00;");
            sea.row(1, 0, 0);
            is.due("nothing, no such ship", sea.commands(0, 1), -1);
            is.due("a row, no such ship", sea.commands(1, 1), -1);
        });
        edges.of(5, sentence, "-11: nothing is held", is -> {
            Ships sea = Sea.of("s00;");
            is.due("commands(0, 0)", sea.commands(0, 0), -11);
        });
        edges.of(5, sentence, "-12: a row of any sort, an empty one, too", is -> {
            Ships sea = Sea.of("s00;");
            for (int sort = 0; sort < 3; sort++) {
                sea.row(0, sort, sort);
                is.due("sort " + sort, sea.commands(0, 0), -12);
            }
            is.due("ship(0, 0)", sea.ship(0, 0), 0);
        });
    }
}
