/** Refusals by all calls: what is told, which goes ahead, and that nothing is changed. */
public final class RefusalsEdgesTest {
    private static final long FAR = 1000000000L;
    private static final String NOTHING = "Their REFUSALS: -11 nothing is held where something is wanted;";
    private static final String OTHER_KIND = "-12 it is of another kind;";
    private static final String NO_PLACE = "-13 a place that isn't there (a number or a size that isn't as told, too);";
    private static final String ORDER = "Answers of several refusals are the first one as they are told at the call:";
    private static final String UNCHANGED = "A refused call changes nothing.";
    /** Ship 0 with men 0 and 1, ship 1 with man 2, ship 2 with nobody. */
    private static final String THREE = "s13;s21;s00;m001;m012;m123;";

    private interface Call {
        long of(Ships sea);
    }

    public static void main(String[] args) {
        Edges edges = new Edges("RefusalsEdgesTest");
        list(edges);
        edges.run();
    }

    static void list(Edges edges) {
        shelvesOfCaptains(edges);
        shelvesOfRows(edges);
        places(edges);
        others(edges);
        order(edges);
        unchanged(edges);
        unchangedShelves(edges);
    }

    /** Shelf 0 holds nothing, 1 a captain, 2 bytes, 3 shorts, 4 ints (three elements each). */
    private static Ships stocked() {
        Ships sea = Sea.of(THREE);
        sea.keep(1, 1, 1, 4);
        Sea.row(sea, 2, Sea.BYTES, 2, 1, 0);
        Sea.row(sea, 3, Sea.SHORTS, 300, 1, 0);
        Sea.row(sea, 4, Sea.INTS, 70000, 1, 0);
        return sea;
    }

    private static void told(Edges edges, int promise, String sentence, String which, long due, Call call) {
        edges.terms(promise, sentence, which, is -> is.due("answer", call.of(stocked()), due));
    }

    private static void shelvesOfCaptains(Edges edges) {
        told(edges, 5, NOTHING, "commands", -11, sea -> sea.commands(0, 0));
        told(edges, 32, NOTHING, "pay", -11, sea -> sea.pay(0));
        told(edges, 33, NOTHING, "toss", -11, sea -> sea.toss(0));
        for (int d = 2; d <= 4; d++) {
            int row = d;
            told(edges, 5, OTHER_KIND, "commands, a row on shelf " + d, -12, sea -> sea.commands(row, 0));
            told(edges, 32, OTHER_KIND, "pay, a row on shelf " + d, -12, sea -> sea.pay(row));
            told(edges, 33, OTHER_KIND, "toss, a row on shelf " + d, -12, sea -> sea.toss(row));
        }
    }

    private static void shelvesOfRows(Edges edges) {
        rows(edges, NOTHING, "nothing", -11, 0);
        told(edges, 23, NOTHING, "judge", -11, sea -> sea.judge(0));
        told(edges, 29, NOTHING, "put", -11, sea -> sea.put(0, 0, 1));
        told(edges, 31, NOTHING, "copy from it", -11, sea -> sea.copy(0, 0, 2, 0, 1));
        told(edges, 31, NOTHING, "copy to it", -11, sea -> sea.copy(2, 0, 0, 0, 1));
        rows(edges, OTHER_KIND, "a captain", -12, 1);
        told(edges, 23, OTHER_KIND, "judge, a captain", -12, sea -> sea.judge(1));
        told(edges, 29, OTHER_KIND, "put, a captain", -12, sea -> sea.put(1, 0, 1));
        told(edges, 31, OTHER_KIND, "copy from a captain", -12, sea -> sea.copy(1, 0, 2, 0, 1));
        told(edges, 31, OTHER_KIND, "copy to a captain", -12, sea -> sea.copy(2, 0, 1, 0, 1));
        told(edges, 31, OTHER_KIND, "copy to another sort", -12, sea -> sea.copy(2, 0, 3, 0, 1));
        rows(edges, OTHER_KIND, "shorts", -12, 3);
        rows(edges, OTHER_KIND, "ints", -12, 4);
    }

    /** The calls that want a row of bytes. */
    private static void rows(Edges edges, String sentence, String what, int due, int d) {
        told(edges, 2, sentence, "fleet, " + what, due, sea -> sea.fleet(d));
        told(edges, 7, sentence, "where, " + what, due, sea -> sea.where(0, d));
        told(edges, 8, sentence, "can, " + what, due, sea -> sea.can(0, d));
        told(edges, 9, sentence, "soonest, " + what, due, sea -> sea.soonest(0, 0, d));
        told(edges, 10, sentence, "likely, " + what, due - FAR, sea -> sea.likely(0, 0, d, 0));
        told(edges, 12, sentence, "crews, " + what, due, sea -> sea.crews(d));
        told(edges, 18, sentence, "letter, " + what, due, sea -> sea.letter(0, d));
        told(edges, 19, sentence, "law, " + what, due, sea -> sea.law(0, d, 0, 0));
        told(edges, 20, sentence, "together, " + what, due, sea -> sea.together(0, 1, d));
        told(edges, 21, sentence, "moved, " + what, due, sea -> sea.moved(0, d));
    }

    private static void places(Edges edges) {
        told(edges, 7, NO_PLACE, "where, a size that isn't by twos", -13, sea -> sea.where(0, 2));
        told(edges, 8, NO_PLACE, "can, a size that isn't by twos", -13, sea -> sea.can(0, 2));
        told(edges, 9, NO_PLACE, "soonest, a size that isn't by twos", -13, sea -> sea.soonest(0, 0, 2));
        told(edges, 10, NO_PLACE, "likely, a size that isn't by twos", -13 - FAR, sea -> sea.likely(0, 0, 2, 0));
        told(edges, 18, NO_PLACE, "letter, a size that isn't by twos", -13, sea -> sea.letter(0, 2));
        told(edges, 19, NO_PLACE, "law, a size that isn't by twos", -13, sea -> sea.law(0, 2, 0, 0));
        told(edges, 20, NO_PLACE, "together, a size that isn't by twos", -13, sea -> sea.together(0, 1, 2));
        told(edges, 21, NO_PLACE, "moved, a size that isn't by twos", -13, sea -> sea.moved(0, 2));
        edges.terms(12, NO_PLACE, "crews, a number that is no ship, a size that isn't told", is -> {
            Ships sea = stocked();
            is.due("as told", sea.crews(2), -4);
            sea.put(2, 0, 3);
            is.due("ship 3", sea.crews(2), -13);
            sea.row(2, Sea.BYTES, 4);
            is.due("four for three men", sea.crews(2), -13);
        });
        told(edges, 29, NO_PLACE, "put, behind the end", -13, sea -> sea.put(2, 3, 1));
        told(edges, 31, NO_PLACE, "copy, behind the end", -13, sea -> sea.copy(2, 3, 2, 0, 1));
        told(edges, 28, "-14 a size below 0;", "row", -14, sea -> sea.row(0, 0, -1));
        told(edges, 33, "-15 a FAILURE that is none.", "toss", -15, sea -> sea.keep(0, 1, 0, 0) + sea.toss(0));
    }

    private static void others(Edges edges) {
        String no = "-1 no such thing, a number out of range, or not as told;";
        told(edges, 3, no, "no such thing: ship", -1, sea -> sea.ship(3, 0));
        told(edges, 27, no, "a number out of range: keep", -1, sea -> sea.keep(0, 1, 8, 0));
        told(edges, 6, no, "not as told: meet", -1, sea -> sea.meet(1, 1));
        String not = "-3 it can't be as things stand; -4 none; -11 to -15;";
        told(edges, 6, not, "-3: meet", -3, sea -> sea.meet(0, 2));
        told(edges, 20, not, "-3: together", -3, sea -> sea.together(0, 2, 2));
        told(edges, 25, not, "-3: restore", -3, sea -> sea.restore());
        told(edges, 3, not, "-4: ship", -4, sea -> sea.ship(2, 4));
        told(edges, 11, not, "-4: fewest", -4, sea -> sea.fewest(0, 2, 0));
        told(edges, 16, not, "-4: mixesMost", -4, sea -> new Ships().mixesMost());
    }

    private static void order(Edges edges) {
        told(edges, 5, ORDER, "commands: -1 ahead of -11", -1, sea -> sea.commands(0, 3));
        told(edges, 6, ORDER, "meet: -1 ahead of -3", -1, sea -> sea.meet(2, 2));
        told(edges, 7, ORDER, "where: -1 ahead of -11", -1, sea -> sea.where(3, 0));
        told(edges, 8, ORDER, "can: -1 ahead of -12", -1, sea -> sea.can(3, 1));
        told(edges, 9, ORDER, "soonest: -1 of the ship ahead of -11", -1, sea -> sea.soonest(0, 3, 0));
        told(edges, 10, ORDER, "likely: -1 of the part ahead of -11", -1 - FAR, sea -> sea.likely(0, 0, 0, 2));
        told(edges, 18, ORDER, "letter: -1 ahead of -13", -1, sea -> sea.letter(3, 2));
        told(edges, 19, ORDER, "law: -1 of the figure ahead of -12", -1, sea -> sea.law(0, 3, 0, 10));
        told(edges, 20, ORDER, "together: -1 ahead of -3", -1, sea -> sea.together(0, 2, 8));
        told(edges, 20, ORDER, "together: -3 ahead of -11", -3, sea -> sea.together(0, 2, 0));
        told(edges, 20, ORDER, "together: -3 ahead of -12", -3, sea -> sea.together(0, 2, 1));
        told(edges, 20, ORDER, "together: -3 ahead of -13", -3, sea -> sea.together(0, 2, 2));
        told(edges, 21, ORDER, "moved: -1 ahead of -11", -1, sea -> sea.moved(-1, 0));
        told(edges, 12, ORDER, "crews: -12 ahead of -13", -12, sea -> sea.row(5, 1, 9) + sea.crews(5));
        told(edges, 28, ORDER, "row: -1 ahead of -14", -1, sea -> sea.row(0, 3, -1));
        told(edges, 29, ORDER, "put: -11 ahead of -13", -11, sea -> sea.put(0, -1, 0));
        told(edges, 29, ORDER, "put: -12 ahead of -13", -12, sea -> sea.put(1, -1, 0));
        told(edges, 31, ORDER, "copy: -1 of the other ahead of -11", -1, sea -> sea.copy(0, 0, 8, 0, -1));
        told(edges, 31, ORDER, "copy: -11 of the other ahead of -12", -11, sea -> sea.copy(1, 0, 0, 0, -1));
        told(edges, 31, ORDER, "copy: -12 ahead of -13", -12, sea -> sea.copy(2, 0, 4, 0, -1));
    }

    /** All that can be told of ships, men and shelves. */
    private static String picture(Ships sea) {
        StringBuilder all = new StringBuilder(Sea.picture(sea, 4, 4));
        for (int d = 0; d < 8; d++) {
            all.append(" pay ").append(sea.pay(d));
            for (int i = 0; i < 4; i++) {
                all.append(' ').append(Sea.element(sea, d, i));
            }
        }
        return all.toString();
    }

    /** That some refused calls leave all as it was; each of them answers below 0. */
    private static void unchanged(Edges edges, int promise, String which, Call... calls) {
        edges.terms(promise, UNCHANGED, which, is -> {
            Ships sea = stocked();
            String before = picture(sea);
            for (int i = 0; i < calls.length; i++) {
                is.holds("call " + i + " is refused", calls[i].of(sea) < 0);
            }
            is.holds("all is as it was", before.equals(picture(sea)));
        });
    }

    private static void unchanged(Edges edges) {
        unchanged(edges, 2, "fleet", sea -> sea.fleet(0), sea -> sea.fleet(1), sea -> sea.fleet(2), sea -> sea.fleet(8));
        edges.terms(2, UNCHANGED, "fleet, a fault behind a ship, a man and a meeting", is -> {
            Ships sea = stocked();
            Sea.text(sea, 7, "s00;m000;x01;m900;");
            String before = picture(sea);
            is.due("fleet(7)", sea.fleet(7), -2013);
            is.holds("all is as it was", before.equals(picture(sea)));
        });
        unchanged(edges, 5, "commands", sea -> sea.commands(0, 0), sea -> sea.commands(2, 0), sea -> sea.commands(1, 3),
            sea -> sea.commands(8, 0));
        unchanged(edges, 6, "meet", sea -> sea.meet(0, 2), sea -> sea.meet(2, 1), sea -> sea.meet(0, 0), sea -> sea.meet(0, 3),
            sea -> sea.meet(-1, 1));
        unchanged(edges, 25, "restore", sea -> sea.restore());
        edges.terms(25, UNCHANGED, "the image", is -> {
            Ships sea = Sea.of(THREE);
            sea.image();
            String then = Sea.picture(sea, 4, 4);
            sea.meet(0, 1);
            sea.meet(0, 2);
            sea.commands(0, 0);
            is.due("restore()", sea.restore(), 0);
            is.holds("all is as it was then", then.equals(Sea.picture(sea, 4, 4)));
        });
    }

    private static void unchangedShelves(Edges edges) {
        unchanged(edges, 27, "keep", sea -> sea.keep(1, 1, 8, 0), sea -> sea.keep(1, 1, 0, 10), sea -> sea.keep(2, 2, 0, 0),
            sea -> sea.keep(3, -1, 0, 0), sea -> sea.keep(8, 0, 0, 0));
        unchanged(edges, 28, "row", sea -> sea.row(1, 0, 101), sea -> sea.row(2, 0, -1), sea -> sea.row(3, 3, 1),
            sea -> sea.row(4, -1, 1), sea -> sea.row(8, 0, 1));
        unchanged(edges, 29, "put", sea -> sea.put(0, 0, 9), sea -> sea.put(1, 0, 9), sea -> sea.put(2, 3, 9),
            sea -> sea.put(3, -1, 9), sea -> sea.put(8, 0, 9));
        unchanged(edges, 30, "element", sea -> Sea.element(sea, 0, 0), sea -> Sea.element(sea, 1, 0), sea -> Sea.element(sea, 2, 3),
            sea -> Sea.element(sea, 8, 0));
        unchanged(edges, 31, "copy", sea -> sea.copy(2, 0, 2, 1, 3), sea -> sea.copy(2, 1, 2, 0, 3), sea -> sea.copy(2, 0, 3, 0, 1),
            sea -> sea.copy(2, 0, 1, 0, 1), sea -> sea.copy(2, 0, 0, 0, 1), sea -> sea.copy(4, 1, 4, 0, -1));
        unchanged(edges, 33, "toss", sea -> sea.toss(0), sea -> sea.toss(2), sea -> sea.toss(8));
    }
}
