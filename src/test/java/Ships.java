/**
 * An object of the class with its calls counted: the document leaves free what it answers behind its
 * 512th call, so a test that asks for more is itself at fault.
 */
final class Ships {
    static final int MOST_CALLS = 512;

    private final ShipsThatMeet sea = new ShipsThatMeet();
    private int calls;

    private ShipsThatMeet counted() {
        calls++;
        if (calls > MOST_CALLS) {
            throw new AssertionError("the test itself asks for more than " + MOST_CALLS + " calls of one object");
        }
        return sea;
    }

    /** How many calls are left. */
    int left() {
        return MOST_CALLS - calls;
    }

    int fleet(int d) {
        return counted().fleet(d);
    }

    int ship(int ship, int what) {
        return counted().ship(ship, what);
    }

    int man(int man, int what) {
        return counted().man(man, what);
    }

    int commands(int d, int ship) {
        return counted().commands(d, ship);
    }

    int meet(int one, int other) {
        return counted().meet(one, other);
    }

    int where(int man, int d) {
        return counted().where(man, d);
    }

    int can(int man, int d) {
        return counted().can(man, d);
    }

    int soonest(int man, int ship, int d) {
        return counted().soonest(man, ship, d);
    }

    long likely(int man, int ship, int d, int part) {
        return counted().likely(man, ship, d, part);
    }

    int fewest(int man, int ship, int what) {
        return counted().fewest(man, ship, what);
    }

    int crews(int d) {
        return counted().crews(d);
    }

    int sailed(int man) {
        return counted().sailed(man);
    }

    int never() {
        return counted().never();
    }

    int mixed() {
        return counted().mixed();
    }

    int mixesMost() {
        return counted().mixesMost();
    }

    int lacks(int trade) {
        return counted().lacks(trade);
    }

    int letter(int man, int d) {
        return counted().letter(man, d);
    }

    int law(int man, int d, int kind, int figure) {
        return counted().law(man, d, kind, figure);
    }

    int together(int one, int other, int d) {
        return counted().together(one, other, d);
    }

    int moved(int man, int d) {
        return counted().moved(man, d);
    }

    int seeded(int man, int n, int z) {
        return counted().seeded(man, n, z);
    }

    int judge(int d) {
        return counted().judge(d);
    }

    int image() {
        return counted().image();
    }

    int restore() {
        return counted().restore();
    }

    int count(int what) {
        return counted().count(what);
    }

    int keep(int d, int what, int k, int figure) {
        return counted().keep(d, what, k, figure);
    }

    int row(int d, int sort, int n) {
        return counted().row(d, sort, n);
    }

    int put(int d, int i, int v) {
        return counted().put(d, i, v);
    }

    long element(int d, int i) {
        return counted().element(d, i);
    }

    int copy(int d, int i, int e, int j, int n) {
        return counted().copy(d, i, e, j, n);
    }

    int pay(int d) {
        return counted().pay(d);
    }

    int toss(int d) {
        return counted().toss(d);
    }
}
