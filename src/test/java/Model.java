import java.math.BigInteger;
import java.util.ArrayList;
import java.util.Comparator;
import java.util.List;
import java.util.TreeSet;

/** The document once more, in the slowest and plainest way, to compare the class with. */
final class Model {
    static final class Ship {
        int kind;
        int figure;
        TreeSet<Integer> crew = new TreeSet<>();
    }

    static final class Man {
        int trade;
        int tongue;
        int since;
        TreeSet<Integer> sailed = new TreeSet<>();
    }

    static final class Fault extends RuntimeException {
        private static final long serialVersionUID = 1;
        final int answer;

        Fault(int answer) {
            this.answer = answer;
        }
    }

    List<Ship> ships = new ArrayList<>();
    List<Man> men = new ArrayList<>();
    int meetings;

    Model copy() {
        Model twin = new Model();
        for (Ship ship : ships) {
            Ship other = new Ship();
            other.kind = ship.kind;
            other.figure = ship.figure;
            other.crew.addAll(ship.crew);
            twin.ships.add(other);
        }
        for (Man man : men) {
            Man other = new Man();
            other.trade = man.trade;
            other.tongue = man.tongue;
            other.since = man.since;
            other.sailed.addAll(man.sailed);
            twin.men.add(other);
        }
        twin.meetings = meetings;
        return twin;
    }

    int shipOf(int man) {
        for (int s = 0; s < ships.size(); s++) {
            if (ships.get(s).crew.contains(man)) {
                return s;
            }
        }
        throw new AssertionError("man " + man + " is nowhere");
    }

    static int bits(Iterable<Integer> numbers) {
        int all = 0;
        for (int number : numbers) {
            all |= 1 << number;
        }
        return all;
    }

    int gives(int s) {
        Ship ship = ships.get(s);
        List<Integer> crew = new ArrayList<>(ship.crew);
        if (crew.isEmpty()) {
            return -4;
        }
        Comparator<Integer> bySince = Comparator.comparing(m -> men.get(m).since);
        List<Integer> unwanted = new ArrayList<>(crew);
        unwanted.removeIf(m -> men.get(m).trade == ship.figure % 4);
        List<Integer> others = new ArrayList<>(crew);
        others.removeIf(m -> m == ship.figure);
        Comparator<Integer> byNumber = Comparator.naturalOrder();
        Comparator<Integer> bySpeakers = Comparator.comparing(m -> speakers(crew, men.get(m).tongue));
        switch (ship.kind) {
            case 0:
                return crew.get(0);
            case 1:
                return crew.get(ship.figure % crew.size());
            case 2:
                return crew.stream().max(bySince.thenComparing(byNumber)).get();
            case 3:
                return crew.stream().min(bySince.thenComparing(byNumber)).get();
            case 4:
                return unwanted.isEmpty() ? crew.get(0) : unwanted.get(0);
            case 5:
                return (unwanted.isEmpty() ? crew : unwanted).stream()
                    .max(bySpeakers.thenComparing(byNumber.reversed())).get();
            case 6:
                return ship.crew.contains(ship.figure) ? ship.figure : crew.get(0);
            default:
                return (others.isEmpty() ? crew : others).stream().min(bySince.thenComparing(byNumber)).get();
        }
    }

    private long speakers(List<Integer> crew, int tongue) {
        return crew.stream().filter(m -> men.get(m).tongue == tongue).count();
    }

    boolean isShip(int s) {
        return s >= 0 && s < ships.size();
    }

    boolean canMeet(int a, int b) {
        return isShip(a) && isShip(b) && a != b && !ships.get(a).crew.isEmpty() && !ships.get(b).crew.isEmpty();
    }

    /** The two who are given, or null if there is no such meeting. */
    int[] meet(int a, int b) {
        if (!canMeet(a, b)) {
            return null;
        }
        int[] given = {gives(a), gives(b)};
        change(a, b, given[0], given[1]);
        return given;
    }

    void change(int a, int b, int fromA, int fromB) {
        ships.get(a).crew.remove(fromA);
        ships.get(b).crew.remove(fromB);
        ships.get(a).crew.add(fromB);
        ships.get(b).crew.add(fromA);
        meetings++;
        men.get(fromA).since = meetings;
        men.get(fromB).since = meetings;
        allSail();
    }

    void allSail() {
        for (Ship ship : ships) {
            for (int m : ship.crew) {
                men.get(m).sailed.addAll(ship.crew);
                men.get(m).sailed.remove(m);
            }
        }
    }

    /** Reads a text into this model; a fault is thrown, and then the model is to be thrown away. */
    int read(String text) {
        int place = firstOfNoForm(text);
        if (place >= 0) {
            throw new Fault(-1000 - place);
        }
        int statements = 0;
        int at = 0;
        for (String statement : text.split(";")) {
            if (!does(statement)) {
                throw new Fault(-2000 - at);
            }
            statements++;
            at += statement.length() + 1;
        }
        return statements;
    }

    /** The first byte behind the longest beginning that some whole fleet begins with. */
    private static int firstOfNoForm(String text) {
        if (!text.isEmpty() && text.matches("(?s)([sx][0-9][0-9];|m[0-9][0-9][0-9];)*")) {
            return -1;
        }
        int good = 0;
        while (good < text.length() && canGoOn(text.substring(0, good + 1))) {
            good++;
        }
        return good;
    }

    private static boolean canGoOn(String text) {
        return text.matches("(?s)([sx][0-9][0-9];|m[0-9][0-9][0-9];)*([sx][0-9]?[0-9]?|m[0-9]?[0-9]?[0-9]?)?");
    }

    private boolean does(String statement) {
        int a = statement.charAt(1) - '0';
        int b = statement.charAt(2) - '0';
        if (statement.charAt(0) == 's') {
            Ship ship = new Ship();
            ship.kind = a;
            ship.figure = b;
            return a < 8 && ships.size() < 5 && ships.add(ship);
        }
        if (statement.charAt(0) == 'x') {
            return meet(a, b) != null;
        }
        Man man = new Man();
        man.trade = b;
        man.tongue = statement.charAt(3) - '0';
        if (!isShip(a) || man.trade > 3 || man.tongue > 3 || men.size() == 12) {
            return false;
        }
        men.add(man);
        ships.get(a).crew.add(men.size() - 1);
        allSail();
        return true;
    }

    /** Where a man may be, if at each meeting of two ships any two men may be given. */
    int can(int man, int[] row, int from) {
        if (from >= row.length) {
            return 1 << shipOf(man);
        }
        int a = row[from];
        int b = row[from + 1];
        if (!canMeet(a, b)) {
            return can(man, row, from + 2);
        }
        int all = 0;
        for (int x : choice(a, man)) {
            for (int y : choice(b, man)) {
                Model next = copy();
                next.change(a, b, x, y);
                all |= next.can(man, row, from + 2);
            }
        }
        return all;
    }

    /** The man himself and one other: which other one goes does not matter to him. */
    private List<Integer> choice(int s, int man) {
        List<Integer> some = new ArrayList<>();
        for (int m : ships.get(s).crew) {
            if (m == man || some.isEmpty() || some.size() == 1 && some.get(0) == man) {
                some.add(m);
            }
        }
        return some;
    }

    /** How likely by lot, told by all gifts one by one: above and below the line. */
    BigInteger[] likely(int man, int ship, int[] row, int from, int left) {
        if (from >= row.length || left == 0) {
            return fraction(shipOf(man) == ship ? 1 : 0, 1);
        }
        int a = row[from];
        int b = row[from + 1];
        if (!canMeet(a, b)) {
            return likely(man, ship, row, from + 2, left - 1);
        }
        BigInteger[] sum = fraction(0, 1);
        int ways = 0;
        for (int x : new ArrayList<>(ships.get(a).crew)) {
            for (int y : new ArrayList<>(ships.get(b).crew)) {
                Model next = copy();
                next.change(a, b, x, y);
                sum = plus(sum, next.likely(man, ship, row, from + 2, left - 1));
                ways++;
            }
        }
        return least(sum[0], sum[1].multiply(BigInteger.valueOf(ways)));
    }

    static BigInteger[] fraction(long above, long below) {
        return new BigInteger[] {BigInteger.valueOf(above), BigInteger.valueOf(below)};
    }

    static BigInteger[] plus(BigInteger[] a, BigInteger[] b) {
        return least(a[0].multiply(b[1]).add(b[0].multiply(a[1])), a[1].multiply(b[1]));
    }

    static BigInteger[] least(BigInteger above, BigInteger below) {
        BigInteger divisor = above.gcd(below);
        return new BigInteger[] {above.divide(divisor), below.divide(divisor)};
    }

    /** The first series of just so many meetings (as names) behind which a goal is met; null if none. */
    int[] series(int many, java.util.function.Predicate<Model> goal) {
        if (many == 0) {
            return goal.test(this) ? new int[0] : null;
        }
        for (int a = 0; a < ships.size(); a++) {
            for (int b = a + 1; b < ships.size(); b++) {
                if (canMeet(a, b)) {
                    Model next = copy();
                    next.meet(a, b);
                    int[] rest = next.series(many - 1, goal);
                    if (rest != null) {
                        int[] all = new int[many];
                        all[0] = 10 * a + b;
                        System.arraycopy(rest, 0, all, 1, many - 1);
                        return all;
                    }
                }
            }
        }
        return null;
    }

    int mixed() {
        int pairs = 0;
        for (Ship ship : ships) {
            for (int x : ship.crew) {
                for (int y : ship.crew) {
                    if (x < y && men.get(x).tongue != men.get(y).tongue) {
                        pairs++;
                    }
                }
            }
        }
        return pairs;
    }
}
