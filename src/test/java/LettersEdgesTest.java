import java.util.Arrays;

/** Promises 18 to 23: letter, law, together, moved, seeded, judge. */
public final class LettersEdgesTest {
    private static final int MIN = Integer.MIN_VALUE;
    private static final int MAX = Integer.MAX_VALUE;
    /** Ship 0 with men 0 and 1, ship 1 with 2 and 3, ship 2 with 4, ship 3 with nobody. */
    private static final String FOUR = "s00;s00;s00;s00;m000;m000;m100;m100;m200;";
    private static final String TWO = "s00;s00;m000;m100;";
    private static final String SEEDED = "SEEDED: n MEETINGS (1 .. 40) with a seed z: a DRAW below how many SHIPS, then another: these meet, "
        + "if they are unlike and have MEN (else that one of the n does nothing): where a man is then.";
    private static final String DRAWS = "DRAWS: z becomes z times 1103515245 plus 12345 (an int); a DRAW below n is "
        + "(z without its sign's bit over 65536, cut) modulo n.";
    private static final String JUDGED = "JUDGED: a ROW of any SORT and size, by fours two SHIPS and the men they GIVE, one MEETING behind the "
        + "other: the place of the first that isn't so (no unlike SHIPS with MEN: that of the first SHIP; another man: his, that of the "
        + "first SHIP ahead); where the last four would begin, if they are not whole and all ahead is so; -4.";

    public static void main(String[] args) {
        Edges edges = new Edges("LettersEdgesTest");
        list(edges);
        edges.run();
    }

    static void list(Edges edges) {
        letter(edges);
        law(edges);
        refusalsOfLaw(edges);
        together(edges);
        refusalsOfTogether(edges);
        moved(edges);
        seeded(edges);
        draws(edges);
        refusalsOfSeeded(edges);
        judge(edges);
        placesOfJudge(edges);
        refusalsOfJudge(edges);
    }

    private static Ships fleetAndRow(String text, int... row) {
        Ships sea = Sea.of(text);
        Sea.bytes(sea, 0, row);
        return sea;
    }

    /** So many meetings of two ships. */
    private static int[] meetings(int many, int one, int other) {
        int[] row = new int[2 * many];
        for (int i = 0; i < row.length; i += 2) {
            row[i] = one;
            row[i + 1] = other;
        }
        return row;
    }

    private static void letter(Edges edges) {
        String sentence = "LETTER: man i has one at first, all who are or come aboard a SHIP with one who has it have it, too "
            + "(now, and behind each MEETING of a ROW): who has it then (bits; himself, too).";
        edges.terms(18, sentence, "now: his shipmates and himself", is -> {
            Ships sea = fleetAndRow(FOUR);
            is.due("letter(0)", sea.letter(0, 0), 3);
            is.due("letter(3)", sea.letter(3, 0), 4 + 8);
            is.due("letter(4), who is alone", sea.letter(4, 0), 16);
        });
        edges.terms(18, sentence, "by him who goes, and from him who stays", is -> {
            Ships sea = fleetAndRow(FOUR, 0, 1);
            is.due("letter(0)", sea.letter(0, 0), 15);
            is.due("letter(1)", sea.letter(1, 0), 15);
            is.due("letter(4), not of it", sea.letter(4, 0), 16);
        });
        edges.terms(18, sentence, "behind each meeting, not only the last", is -> {
            // 2 goes to ship 2 and 4 comes to 3; then 0 goes to 4 and 3 comes to 1
            Ships sea = fleetAndRow(FOUR, 1, 2, 0, 1);
            is.due("letter(4)", sea.letter(4, 0), 1 + 2 + 8 + 16);
            is.due("letter(2)", sea.letter(2, 0), 31);
            // 2 has gone from ship 1 by the time it comes there
            is.due("letter(0)", sea.letter(0, 0), 1 + 2 + 8 + 16);
        });
        edges.terms(18, sentence, "two who pass one another do not tell", is -> {
            Ships sea = fleetAndRow(TWO, 0, 1, 0, 1);
            is.due("letter(0)", sea.letter(0, 0), 1);
            is.due("letter(1)", sea.letter(1, 0), 2);
        });
        edges.of(18, "LETTER (bits).", "all twelve", is -> {
            Ships sea = fleetAndRow("s00;s00;" + Sea.repeated("m000;", 11) + "m100;", 0, 1);
            is.due("letter(11)", sea.letter(11, 0), 4095 - 1);
            Sea.bytes(sea, 0, 0, 1, 0, 1);
            is.due("letter(11), behind two", sea.letter(11, 0), 4095);
            is.due("letter(0)", sea.letter(0, 0), 4095);
        });
        edges.of(18, "-1, and of the ROW.", "-1: no such man, whatever the row", is -> {
            Ships sea = fleetAndRow(FOUR, 0, 0);
            for (int man : new int[] {-1, 5, 12, MIN, MAX}) {
                is.due("letter(" + man + ", 0), not as told", sea.letter(man, 0), -1);
                is.due("letter(" + man + ", 1), nothing", sea.letter(man, 1), -1);
            }
        });
    }

    private static void law(Edges edges) {
        String sentence = "LAW: if all CAPTAINS were of a KIND and FIGURE, behind how many of a ROW's MEETINGS a man were aboard another SHIP "
            + "than where he is now.";
        edges.terms(19, sentence, "none, half and all of twelve", is -> {
            // 0 goes and comes in turn with 1; 2 goes at once and stays; 3 is never given
            Ships sea = fleetAndRow(FOUR, meetings(12, 0, 1));
            is.due("law(0)", sea.law(0, 0, 6, 0), 6);
            is.due("law(1)", sea.law(1, 0, 6, 0), 6);
            is.due("law(2)", sea.law(2, 0, 6, 0), 12);
            is.due("law(3)", sea.law(3, 0, 6, 0), 0);
        });
        edges.terms(19, sentence, "all captains, whatever they are", is -> {
            Ships sea = fleetAndRow("s60;s62;m000;m000;m100;m100;", 0, 1);
            is.due("law(0), captains", sea.law(0, 0, 0, 0), 1);
            is.due("law(1), NEW", sea.law(1, 0, 2, 0), 1);
            is.due("law(3), NEW", sea.law(3, 0, 2, 0), 1);
            is.due("law(0), NEW", sea.law(0, 0, 2, 0), 0);
            is.due("ship(0, 0) stays", sea.ship(0, 0), 6);
        });
        edges.terms(19, sentence, "where he is now, not where he was at first", is -> {
            Ships sea = fleetAndRow(TWO, 0, 1, 0, 1, 0, 1);
            is.due("law(0)", sea.law(0, 0, 0, 0), 2);
            sea.meet(0, 1);
            is.due("law(0) behind a meeting", sea.law(0, 0, 0, 0), 2);
        });
        edges.of(19, "LAW: how many.", "no meetings: 0", is -> is.due("law(0)", fleetAndRow(FOUR).law(0, 0, 0, 0), 0));
        edges.of(19, "LAW: how many.", "each kind, figures at either end", is -> {
            // ship 0 has 0 and 1 (trades 0 and 1), ship 1 has 2: whether 0 goes
            Ships sea = fleetAndRow("s00;s00;m000;m010;m100;", 0, 1);
            int[] figure0 = {1, 1, 0, 1, 0, 0, 1, 0};
            int[] figure9 = {1, 0, 0, 1, 1, 1, 1, 1};
            for (int kind = 0; kind < 8; kind++) {
                is.due("kind " + kind + ", figure 0", sea.law(0, 0, kind, 0), figure0[kind]);
                is.due("kind " + kind + ", figure 9", sea.law(0, 0, kind, 9), figure9[kind]);
            }
        });
    }

    private static void refusalsOfLaw(Edges edges) {
        String sentence = "-1 (of all four), and of the ROW.";
        edges.of(19, sentence, "-1: no such kind or figure, whatever the row", is -> {
            Ships sea = fleetAndRow(FOUR, 0, 0);
            for (int number : new int[] {-1, 10, MIN, MAX}) {
                is.due("kind " + number + ", not as told", sea.law(0, 0, number, 0), -1);
                is.due("figure " + number + ", not as told", sea.law(0, 0, 0, number), -1);
                is.due("figure " + number + ", nothing", sea.law(0, 1, 0, number), -1);
            }
            is.due("kind 8", sea.law(0, 0, 8, 0), -1);
        });
        edges.of(19, sentence, "-1: no such man, whatever the row", is -> {
            Ships sea = fleetAndRow(FOUR, 0, 0);
            for (int man : new int[] {-1, 5, 12, MIN, MAX}) {
                is.due("law(" + man + "), not as told", sea.law(man, 0, 0, 0), -1);
                is.due("law(" + man + "), nothing", sea.law(man, 1, 0, 0), -1);
            }
        });
    }

    private static void together(Edges edges) {
        String sentence = "TOGETHER: behind how many of a ROW's first MEETINGS two who are aboard one SHIP now are so still, without a break "
            + "(0 .. all of them); -3 they are not now.";
        edges.terms(20, sentence, "0: they part at once", is -> {
            Ships sea = fleetAndRow(FOUR, 0, 1, 1, 2);
            is.due("together(0, 1)", sea.together(0, 1, 0), 0);
            is.due("together(1, 0)", sea.together(1, 0, 0), 0);
        });
        edges.terms(20, sentence, "all twelve", is -> {
            Ships sea = fleetAndRow(FOUR, meetings(12, 1, 2));
            is.due("together(0, 1)", sea.together(0, 1, 0), 12);
            int[] row = meetings(12, 1, 2);
            row[22] = 0;
            Sea.bytes(sea, 0, row);
            is.due("they part at the last", sea.together(0, 1, 0), 11);
        });
        edges.terms(20, sentence, "no meetings: 0", is -> is.due("together(0, 1)", fleetAndRow(FOUR).together(0, 1, 0), 0));
        edges.terms(20, sentence, "those behind a break are not counted", is -> {
            Ships sea = fleetAndRow("s60;s60;m000;m000;m100;", 0, 1, 0, 1);
            // 0 goes and comes back, but 1 has gone for him by then
            is.due("where(0)", sea.where(0, 0), 0);
            is.due("together(0, 1)", sea.together(0, 1, 0), 0);
            Ships again = fleetAndRow("s60;s60;m000;m000;m000;m100;", 0, 1, 0, 1);
            // 0 goes and comes back for 1: 0 and 2 are together again
            is.due("where(2)", again.where(2, 0), 0);
            is.due("together(0, 2)", again.together(0, 2, 0), 0);
        });
        edges.terms(20, sentence, "by the row of that shelf", is -> {
            Ships sea = fleetAndRow(FOUR);
            Sea.bytes(sea, 7, 1, 2, 1, 2);
            is.due("together(0, 1, 0)", sea.together(0, 1, 0), 0);
            is.due("together(0, 1, 7)", sea.together(0, 1, 7), 2);
        });
        edges.terms(20, sentence, "from how things are now", is -> {
            Ships sea = fleetAndRow(FOUR, 0, 1);
            is.due("together(1, 0)", sea.together(1, 0, 0), 0);
            sea.meet(0, 1);
            // ship 0 has 1 and 2, ship 1 has 0 and 3; 1 and 0 go
            is.due("together(1, 2)", sea.together(1, 2, 0), 0);
            Sea.bytes(sea, 0, 1, 2, 0, 1);
            is.due("together(1, 2), behind one more", sea.together(1, 2, 0), 1);
        });
        edges.terms(20, sentence, "-3: they are not now", is -> {
            Ships sea = fleetAndRow(FOUR, 0, 1);
            is.due("together(0, 2)", sea.together(0, 2, 0), -3);
            is.due("together(4, 3)", sea.together(4, 3, 0), -3);
            sea.meet(0, 1);
            is.due("together(0, 1), behind a meeting", sea.together(0, 1, 0), -3);
        });
    }

    private static void refusalsOfTogether(Edges edges) {
        String sentence = "TOGETHER. -1 (one twice, too), -3, and of the ROW (its -1 ahead of -3).";
        edges.of(20, sentence, "-1: no such man, whatever the row", is -> {
            Ships sea = fleetAndRow(FOUR, 0, 0);
            for (int man : new int[] {-1, 5, 12, MIN, MAX}) {
                is.due("together(0, " + man + ", 0)", sea.together(0, man, 0), -1);
                is.due("together(" + man + ", 0, 0)", sea.together(man, 0, 0), -1);
                is.due("together(" + man + ", 0, 1)", sea.together(man, 0, 1), -1);
            }
        });
        edges.of(20, sentence, "-1: one twice", is -> {
            Ships sea = fleetAndRow(FOUR, 0, 1);
            is.due("together(0, 0, 0)", sea.together(0, 0, 0), -1);
            is.due("together(4, 4, 1)", sea.together(4, 4, 1), -1);
        });
        edges.of(20, sentence, "the row's -1 ahead of -3", is -> {
            Ships sea = Sea.of(FOUR);
            is.due("together(0, 2, 8)", sea.together(0, 2, 8), -1);
            is.due("together(0, 2, -1)", sea.together(0, 2, -1), -1);
        });
        edges.of(20, sentence, "-3 ahead of the row's other refusals", is -> {
            Ships sea = Sea.of(FOUR);
            is.due("nothing", sea.together(0, 2, 0), -3);
            sea.keep(0, 1, 0, 0);
            is.due("a captain", sea.together(0, 2, 0), -3);
            Sea.row(sea, 0, Sea.SHORTS, 0, 1);
            is.due("shorts", sea.together(0, 2, 0), -3);
            Sea.bytes(sea, 0, 0, 0);
            is.due("not as told", sea.together(0, 2, 0), -3);
        });
    }

    private static void moved(Edges edges) {
        edges.terms(21, "MOVED: how often a man is given in a ROW of MEETINGS.", "never, and at each of twelve", is -> {
            Ships sea = fleetAndRow(TWO, meetings(12, 0, 1));
            is.due("moved(0)", sea.moved(0, 0), 12);
            is.due("moved(1)", sea.moved(1, 0), 12);
            Ships kept = fleetAndRow("s71;s00;m000;m000;m100;", meetings(12, 0, 1));
            is.due("moved(1), who is kept", kept.moved(1, 0), 0);
        });
        edges.terms(21, "MOVED: how often a man is given in a ROW of MEETINGS.", "there and back is twice", is -> {
            Ships sea = fleetAndRow(FOUR, 0, 2, 2, 0);
            is.due("moved(0)", sea.moved(0, 0), 2);
            is.due("moved(1)", sea.moved(1, 0), 1);
            is.due("moved(2), not of them", sea.moved(2, 0), 0);
        });
        edges.of(21, "MOVED.", "no meetings: 0", is -> is.due("moved(0)", fleetAndRow(FOUR).moved(0, 0), 0));
        edges.of(21, "-1, and of the ROW.", "-1: no such man, whatever the row", is -> {
            Ships sea = fleetAndRow(FOUR, 0, 0);
            for (int man : new int[] {-1, 5, 12, MIN, MAX}) {
                is.due("moved(" + man + ", 0), not as told", sea.moved(man, 0), -1);
                is.due("moved(" + man + ", 1), nothing", sea.moved(man, 1), -1);
            }
        });
    }

    private static void seeded(Edges edges) {
        edges.terms(22, SEEDED, "1 and 40 meetings", is -> {
            Ships sea = Sea.of(TWO);
            is.due("n 1, draws 0 1", sea.seeded(0, 1, 2), 1);
            is.due("n 39, an odd number of unlike draws", sea.seeded(0, 39, 1), 1);
            is.due("n 40, an even one", sea.seeded(0, 40, 1), 0);
        });
        edges.terms(22, SEEDED, "like draws do nothing, but are one of the n", is -> {
            // 0 0, 0 1, 0 1, 1 1
            Ships sea = Sea.of(TWO);
            int[] due = {0, 1, 0, 0};
            for (int n = 1; n <= 4; n++) {
                is.due("n " + n, sea.seeded(0, n, 0), due[n - 1]);
            }
        });
        edges.terms(22, SEEDED, "ships without men do nothing, but are of those that are drawn", is -> {
            // 2 2, 0 2, 1 2, 0 1
            Ships sea = Sea.of("s00;s00;s00;m000;m100;");
            int[] due = {0, 0, 0, 1};
            for (int n = 1; n <= 4; n++) {
                is.due("n " + n, sea.seeded(0, n, 2), due[n - 1]);
            }
        });
        edges.terms(22, SEEDED, "one ship: he stays", is -> {
            Ships sea = Sea.of("s00;m000;");
            is.due("n 1", sea.seeded(0, 1, 7), 0);
            is.due("n 40", sea.seeded(0, 40, 7), 0);
        });
        edges.terms(22, SEEDED, "five ships", is -> {
            // 4 1, 3 4
            Ships sea = Sea.of("s00;s00;s00;s00;s00;m000;m100;m200;m300;m400;");
            int[] first = {0, 4, 2, 3, 1};
            int[] second = {0, 3, 2, 4, 1};
            for (int man = 0; man < 5; man++) {
                is.due("n 1, man " + man, sea.seeded(man, 1, 7), first[man]);
                is.due("n 2, man " + man, sea.seeded(man, 2, 7), second[man]);
            }
        });
    }

    private static void draws(Edges edges) {
        edges.terms(22, DRAWS, "without the sign's bit: seed 2 becomes -2087924461, a draw of 908", is -> {
            is.due("draws 0 1 of two ships", Sea.of(TWO).seeded(0, 1, 2), 1);
        });
        edges.terms(22, DRAWS, "an int: the least and the greatest seed", is -> {
            // MIN draws as 0 does, MAX as -1 does: 1 1, 0 0, 1 0, 0 1
            Ships sea = Sea.of(TWO);
            int[] least = {0, 1, 0, 0};
            int[] greatest = {0, 0, 1, 0};
            for (int n = 1; n <= 4; n++) {
                is.due("MIN, n " + n, sea.seeded(0, n, MIN), least[n - 1]);
                is.due("MAX, n " + n, sea.seeded(0, n, MAX), greatest[n - 1]);
                is.due("-1, n " + n, sea.seeded(0, n, -1), greatest[n - 1]);
            }
        });
        edges.terms(22, DRAWS, "each call begins with its own seed", is -> {
            Ships sea = Sea.of(TWO);
            is.due("seed 2", sea.seeded(0, 1, 2), 1);
            is.due("seed 2 again", sea.seeded(0, 1, 2), 1);
            is.due("seed 0", sea.seeded(0, 1, 0), 0);
        });
    }

    private static void refusalsOfSeeded(Edges edges) {
        edges.of(22, "SEEDED. -1.", "fewer than 1, more than 40", is -> {
            Ships sea = Sea.of(TWO);
            for (int n : new int[] {0, -1, 41, MIN, MAX}) {
                is.due("n " + n, sea.seeded(0, n, 1), -1);
            }
        });
        edges.of(22, "SEEDED. -1.", "no such man", is -> {
            Ships sea = Sea.of(TWO);
            for (int man : new int[] {-1, 2, 12, MIN, MAX}) {
                is.due("man " + man, sea.seeded(man, 1, 1), -1);
            }
        });
    }

    /** What judge answers of gifts, in each of some sorts. */
    private static void judged(Edges.Edge is, String text, int due, int... told) {
        Ships sea = Sea.of(text);
        for (int sort = 0; sort < 3; sort++) {
            Sea.row(sea, 2, sort, told);
            is.due("judge of " + Arrays.toString(told) + ", sort " + sort, sea.judge(2), due);
        }
    }

    private static void judge(Edges edges) {
        edges.terms(23, JUDGED, "-4: no gifts, and all are so", is -> {
            judged(is, FOUR, -4);
            judged(is, FOUR, -4, 0, 1, 0, 2);
            judged(is, FOUR, -4, 1, 0, 2, 0);
            is.due("an empty row, no ships", judgeNothing(), -4);
        });
        edges.terms(23, JUDGED, "one meeting behind the other", is -> {
            judged(is, FOUR, -4, 0, 1, 0, 2, 0, 1, 1, 0);
            judged(is, FOUR, 6, 0, 1, 0, 2, 0, 1, 0, 2);
        });
        edges.terms(23, JUDGED, "by other ships each time", is -> {
            // 0 and 2 change, then 1 and 4, then 0 and 1
            judged(is, FOUR, -4, 0, 1, 0, 2, 0, 2, 1, 4, 1, 2, 0, 1);
            judged(is, FOUR, 10, 0, 1, 0, 2, 0, 2, 1, 4, 1, 2, 3, 1);
            judged(is, FOUR, 11, 0, 1, 0, 2, 0, 2, 1, 4, 1, 2, 0, 4);
            // the other way round: 2 and 0 change, then 4 and 1, then 1 and 0
            judged(is, FOUR, -4, 1, 0, 2, 0, 2, 0, 4, 1, 2, 1, 1, 0);
        });
        edges.terms(23, JUDGED, "a full row", is -> {
            Ships sea = Sea.of(TWO);
            int[] told = new int[100];
            for (int i = 0; i < 100; i += 4) {
                told[i + 1] = 1;
                told[i + 2] = i / 4 % 2;
                told[i + 3] = 1 - i / 4 % 2;
            }
            Sea.row(sea, 0, Sea.SHORTS, told);
            is.due("25 meetings", sea.judge(0), -4);
            sea.put(0, 99, 2);
            is.due("the last man is another", sea.judge(0), 99);
            sea.put(0, 96, 2);
            is.due("the last first ship is none", sea.judge(0), 96);
        });
        edges.terms(23, JUDGED, "of any sort: an int is not cut", is -> {
            Ships sea = Sea.of(FOUR);
            Sea.row(sea, 0, Sea.INTS, 0, 1, 256, 2);
            is.due("man 256", sea.judge(0), 2);
            Sea.row(sea, 0, Sea.INTS, 65536, 1, 0, 2);
            is.due("ship 65536", sea.judge(0), 0);
            Sea.row(sea, 0, Sea.INTS, MIN, MAX, 0, 2);
            is.due("ships MIN and MAX", sea.judge(0), 0);
            Sea.row(sea, 0, Sea.SHORTS, 0, 1, 0, 256);
            is.due("man 256 of shorts", sea.judge(0), 3);
        });
    }

    private static int judgeNothing() {
        Ships sea = new Ships();
        sea.row(0, Sea.INTS, 0);
        return sea.judge(0);
    }

    private static void placesOfJudge(Edges edges) {
        edges.terms(23, JUDGED, "no unlike ships with men: the first ship's place", is -> {
            judged(is, FOUR, 0, 0, 0, 0, 0);
            judged(is, FOUR, 0, -1, 1, 0, 2);
            judged(is, FOUR, 0, 4, 1, 0, 2);
            judged(is, FOUR, 0, 0, 4, 0, 2);
            judged(is, FOUR, 0, 0, 3, 0, -4);
            judged(is, FOUR, 0, 3, 0, -4, 0);
            judged(is, FOUR, 4, 0, 1, 0, 2, 1, 1, 0, 0);
        });
        edges.terms(23, JUDGED, "another man: his place, that of the first ship ahead", is -> {
            judged(is, FOUR, 2, 0, 1, 1, 2);
            judged(is, FOUR, 3, 0, 1, 0, 3);
            judged(is, FOUR, 2, 0, 1, 1, 3);
            judged(is, FOUR, 2, 0, 1, 2, 0);
            judged(is, FOUR, 2, 0, 1, -1, 2);
            judged(is, FOUR, 3, 0, 1, 0, 12);
        });
        edges.terms(23, JUDGED, "not whole: where the last four would begin", is -> {
            judged(is, FOUR, 0, 0);
            judged(is, FOUR, 0, 0, 1);
            judged(is, FOUR, 0, 0, 1, 0);
            judged(is, FOUR, 4, 0, 1, 0, 2, 9);
            judged(is, FOUR, 4, 0, 1, 0, 2, 0, 1, 1);
        });
        edges.terms(23, JUDGED, "not whole, but what is ahead isn't so", is -> {
            judged(is, FOUR, 2, 0, 1, 1, 2, 9);
            judged(is, FOUR, 0, 0, 0, 0, 0, 9, 9);
        });
    }

    private static void refusalsOfJudge(Edges edges) {
        String sentence = "JUDGED by the ROW in SHELF d; -4. -1, -11, -12 (no ROW).";
        edges.of(23, sentence, "-4", is -> is.due("judge of no gifts", judgeNothing(), -4));
        edges.of(23, sentence, "-1: no such shelf", is -> {
            Ships sea = Sea.of(FOUR);
            for (int d : new int[] {-1, 8, MIN, MAX}) {
                is.due("judge(" + d + ")", sea.judge(d), -1);
            }
        });
        edges.of(23, sentence, "-11: nothing is held", is -> is.due("judge(0)", Sea.of(FOUR).judge(0), -11));
        edges.of(23, sentence, "-12: a captain", is -> {
            Ships sea = Sea.of(FOUR);
            sea.keep(0, 1, 0, 0);
            is.due("judge(0)", sea.judge(0), -12);
        });
    }
}
