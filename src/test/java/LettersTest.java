/** Promises 18 to 23: letter, law, together, moved, seeded, judge. */
public final class LettersTest {
    private static final Check CHECK = new Check("LettersTest");
    /** Ship 0 with men 0 and 1, ship 1 with 2 and 3, ship 2 with 4, ship 3 without men. */
    private static final String FOUR = "s00;s00;s00;s00;m000;m000;m100;m100;m200;";

    public static void main(String[] args) {
        letter();
        law();
        together();
        moved();
        seeded();
        judge();
        refusalsOfJudge();
        CHECK.end();
    }

    private static void letter() {
        Ships sea = Sea.of(FOUR);
        sea.row(0, 0, 0);
        CHECK.due("now", sea.letter(0, 0), 3);
        CHECK.due("one alone", sea.letter(4, 0), 16);
        Sea.bytes(sea, 0, 0, 1);
        CHECK.due("by the one who goes, and those who get one", sea.letter(0, 0), 15);
        CHECK.due("who stays tells him who comes", sea.letter(1, 0), 15);
        Sea.bytes(sea, 0, 1, 2);
        // 2 goes to ship 2, 4 comes to 3
        CHECK.due("to ship 2", sea.letter(2, 0), 4 + 8 + 16);
        CHECK.due("from ship 2", sea.letter(4, 0), 8 + 16);
        CHECK.due("not of this meeting", sea.letter(0, 0), 3);
        Sea.bytes(sea, 0, 1, 2, 0, 1);
        // then 0 and 3 change: 0 is with 4, 3 with 1
        CHECK.due("on by the second", sea.letter(4, 0), 1 + 2 + 8 + 16);
        Sea.bytes(sea, 0, 2, 3);
        CHECK.due("one without men does nothing", sea.letter(4, 0), 16);
        CHECK.due("man 5", sea.letter(5, 0), -1);
    }

    private static void law() {
        Ships sea = Sea.of(FOUR);
        Sea.bytes(sea, 0, 0, 1, 0, 3, 0, 1, 0, 1);
        // captains: 0 goes, (nothing), 0 against 1: 0 comes back, then 0 goes again
        CHECK.due("captains", sea.law(0, 0, 0, 0), 3);
        CHECK.due("told 1: he never goes", sea.law(0, 0, 6, 1), 1);
        CHECK.due("keep 0", sea.law(0, 0, 7, 0), 0);
        CHECK.due("new", sea.law(1, 0, 2, 0), 3);
        CHECK.due("figure as told", sea.law(1, 0, 6, 1), 3);
        CHECK.due("the captains stay as they are", sea.ship(0, 0), 0);
        sea.row(0, 0, 0);
        CHECK.due("no meetings", sea.law(0, 0, 0, 0), 0);
        CHECK.due("kind -1", sea.law(0, 0, -1, 0), -1);
        CHECK.due("kind 8", sea.law(0, 0, 8, 0), -1);
        CHECK.due("figure -1", sea.law(0, 0, 0, -1), -1);
        CHECK.due("figure 10", sea.law(0, 0, 0, 10), -1);
        CHECK.due("man 5", sea.law(5, 0, 0, 0), -1);
        CHECK.due("shelf 8", sea.law(0, 8, 0, 0), -1);
    }

    private static void together() {
        Ships sea = Sea.of(FOUR);
        Sea.bytes(sea, 0, 1, 2, 0, 3, 0, 1, 0, 1);
        CHECK.due("two meetings and no more", sea.together(0, 1, 0), 2);
        CHECK.due("in the other order", sea.together(1, 0, 0), 2);
        CHECK.due("at once", sea.together(2, 3, 0), 0);
        Sea.bytes(sea, 0, 1, 2, 1, 2);
        CHECK.due("all of them", sea.together(0, 1, 0), 2);
        sea.row(0, 0, 0);
        CHECK.due("no meetings", sea.together(0, 1, 0), 0);
        CHECK.due("not now", sea.together(0, 2, 0), -3);
        CHECK.due("not now, nothing held", sea.together(0, 2, 1), -3);
        CHECK.due("not now, no shelf", sea.together(0, 2, 8), -1);
        CHECK.due("nothing held", sea.together(0, 1, 1), -11);
        CHECK.due("one twice", sea.together(0, 0, 0), -1);
        CHECK.due("one twice, nothing held", sea.together(0, 0, 1), -1);
        CHECK.due("man 5", sea.together(0, 5, 0), -1);
        CHECK.due("man -1", sea.together(-1, 0, 0), -1);
        sea.keep(1, 1, 0, 0);
        CHECK.due("not now, a captain", sea.together(0, 2, 1), -3);
        Sea.bytes(sea, 1, 0);
        CHECK.due("not now, not as told", sea.together(0, 2, 1), -3);
        CHECK.due("not as told", sea.together(0, 1, 1), -13);
        breaks();
    }

    /** Two who part and meet again are counted till they part. */
    private static void breaks() {
        Ships sea = Sea.of("s60;s60;m000;m000;m100;");
        Sea.bytes(sea, 0, 0, 1, 0, 1);
        CHECK.due("0 is back behind two", sea.where(0, 0), 0);
        CHECK.due("but there was a break", sea.together(0, 1, 0), 0);
    }

    private static void moved() {
        Ships sea = Sea.of(FOUR);
        Sea.bytes(sea, 0, 0, 1, 0, 3, 0, 1, 1, 2, 2, 1);
        // 0<->2, nothing, 1<->0, then ship 1 has 1 and 3 and ship 2 has 4: 1<->4, and 3<->1
        CHECK.due("man 0", sea.moved(0, 0), 2);
        CHECK.due("man 1", sea.moved(1, 0), 3);
        CHECK.due("man 2", sea.moved(2, 0), 1);
        CHECK.due("man 3", sea.moved(3, 0), 1);
        CHECK.due("man 4", sea.moved(4, 0), 1);
        sea.row(0, 0, 0);
        CHECK.due("no meetings", sea.moved(0, 0), 0);
        CHECK.due("man 5", sea.moved(5, 0), -1);
    }

    private static void seeded() {
        Ships sea = Sea.of(FOUR);
        CHECK.due("man 5", sea.seeded(5, 1, 1), -1);
        CHECK.due("man -1", sea.seeded(-1, 1, 1), -1);
        CHECK.due("n 0", sea.seeded(0, 0, 1), -1);
        CHECK.due("n -1", sea.seeded(0, -1, 1), -1);
        CHECK.due("n 41", sea.seeded(0, 41, 1), -1);
        int[] seeds = {0, 1, -1, 7, 12345, Integer.MIN_VALUE, Integer.MAX_VALUE, 987654321, -55};
        for (int seed : seeds) {
            Ships told = Sea.of(FOUR);
            for (int n = 1; n <= 40; n++) {
                Ships trial = Sea.of(FOUR);
                meetBySeed(trial, n, seed);
                for (int man = 0; man < 5; man++) {
                    CHECK.due("seeded " + man + " " + n + " " + seed, told.seeded(man, n, seed), trial.man(man, 0));
                }
            }
            CHECK.due("nothing stays", told.count(2), 0);
        }
    }

    private static void meetBySeed(Ships sea, int n, int seed) {
        int z = seed;
        for (int i = 0; i < n; i++) {
            z = z * 1103515245 + 12345;
            int one = (int) ((z & 0x7fffffffL) >> 16) % 4;
            z = z * 1103515245 + 12345;
            int other = (int) ((z & 0x7fffffffL) >> 16) % 4;
            sea.meet(one, other);
        }
    }

    private static void judge() {
        for (int sort = 0; sort < 3; sort++) {
            Ships sea = Sea.of(FOUR);
            judged(sea, sort, -4);
            judged(sea, sort, -4, 0, 1, 0, 2);
            judged(sea, sort, -4, 1, 0, 2, 0);
            // behind it ship 0 has 1 and 2
            judged(sea, sort, -4, 0, 1, 0, 2, 0, 1, 1, 0);
            judged(sea, sort, 6, 0, 1, 0, 2, 0, 1, 2, 0);
            judged(sea, sort, 7, 0, 1, 0, 2, 0, 1, 1, 3);
            judged(sea, sort, 2, 0, 1, 1, 3);
            judged(sea, sort, 3, 0, 1, 0, 3);
            judged(sea, sort, 0, 0, 0, 0, 0);
            judged(sea, sort, 0, 0, 4, 0, 0);
            judged(sea, sort, 0, -1, 1, 0, 2);
            judged(sea, sort, 0, 0, 3, 0, -4);
            judged(sea, sort, 4, 0, 1, 0, 2, 3, 0, 1, 1);
            judged(sea, sort, 0, 0);
            judged(sea, sort, 0, 0, 1, 0);
            judged(sea, sort, 4, 0, 1, 0, 2, 9);
            judged(sea, sort, 4, 0, 1, 0, 2, 0, 1, 1);
            judged(sea, sort, 2, 0, 1, 5, 2, 9);
        }
        Ships sea = Sea.of(FOUR);
        judged(sea, Sea.INTS, 2, 0, 1, 256, 2);
        judged(sea, Sea.BYTES, -4, 0, 1, 256, 2);
        judged(sea, Sea.INTS, 0, 65536, 1, 0, 2);
        int[] long25 = new int[100];
        Ships two = Sea.of("s00;s00;m000;m100;");
        for (int i = 0; i < 25; i++) {
            long25[4 * i + 1] = 1;
            long25[4 * i + 2] = i % 2;
            long25[4 * i + 3] = 1 - i % 2;
        }
        judged(two, Sea.SHORTS, -4, long25);
        long25[99] = 5;
        judged(two, Sea.SHORTS, 99, long25);
        CHECK.due("nothing stays", two.count(2), 0);
    }

    private static void judged(Ships sea, int sort, int due, int... told) {
        Sea.row(sea, 2, sort, told);
        CHECK.due("judge " + java.util.Arrays.toString(told) + " of sort " + sort, sea.judge(2), due);
    }

    private static void refusalsOfJudge() {
        Ships sea = Sea.of(FOUR);
        CHECK.due("shelf -1", sea.judge(-1), -1);
        CHECK.due("shelf 8", sea.judge(8), -1);
        CHECK.due("nothing", sea.judge(0), -11);
        sea.keep(0, 1, 0, 0);
        CHECK.due("a captain", sea.judge(0), -12);
    }
}
