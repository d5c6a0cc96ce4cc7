import java.math.BigInteger;
import java.util.Random;
import java.util.TreeSet;
import java.util.function.Predicate;

/** Runs of calls drawn by a fixed seed, each answer compared with the model's. */
public final class RandomRunsTest {
    private static final Check CHECK = new Check("RandomRunsTest");
    /** More calls than a change and a question take. */
    private static final int DEAREST_STEP = 170;
    private final Random random;
    private final Ships sea = new Ships();
    private Model model = new Model();
    private Model image;
    private final int seed;

    private RandomRunsTest(int seed) {
        this.seed = seed;
        random = new Random(seed);
    }

    public static void main(String[] args) {
        int runs = args.length > 0 ? Integer.parseInt(args[0]) : 3000;
        for (int seed = 0; seed < runs; seed++) {
            new RandomRunsTest(seed).run();
        }
        CHECK.end();
    }

    private void due(String call, long got, long want) {
        CHECK.due("run " + seed + ": " + call, got, want);
    }

    private void run() {
        read(someText(1 + random.nextInt(5), random.nextInt(13)));
        for (int step = 0; step < 100 && sea.left() >= DEAREST_STEP; step++) {
            change();
            ask(random.nextInt(8));
        }
    }

    private void ask(int question) {
        switch (question) {
            case 0:
                pictures();
                break;
            case 1:
            case 2:
                byRow(someRow(random.nextInt(13)));
                break;
            case 3:
                chosen(someRow(random.nextInt(4)));
                break;
            case 4:
                judge();
                break;
            case 5:
                seeded();
                break;
            case 6:
                crewsTold();
                break;
            default:
                search();
                break;
        }
    }

    private String someText(int ships, int men) {
        StringBuilder text = new StringBuilder();
        for (int s = 0; s < ships; s++) {
            text.append('s').append(random.nextInt(8)).append(random.nextInt(10)).append(';');
        }
        for (int m = 0; m < men; m++) {
            text.append('m').append(random.nextInt(ships)).append(random.nextInt(4)).append(random.nextInt(4)).append(';');
        }
        return text.toString();
    }

    private void read(String text) {
        Model next = model.copy();
        int due;
        try {
            due = next.read(text);
            model = next;
        } catch (Model.Fault fault) {
            due = fault.answer;
        }
        due("fleet of " + text, Sea.read(sea, text), due);
    }

    private String brokenText() {
        StringBuilder text = new StringBuilder();
        for (int part = random.nextInt(5); part > 0; part--) {
            char letter = "smx".charAt(random.nextInt(3));
            text.append(letter);
            for (int digit = letter == 'm' ? 3 : 2; digit > 0; digit--) {
                text.append(random.nextInt(random.nextInt(8) == 0 ? 10 : 4));
            }
            text.append(';');
        }
        if (random.nextInt(2) == 0 && text.length() > 0) {
            text.setCharAt(random.nextInt(text.length()), "smx;09a".charAt(random.nextInt(7)));
        }
        if (random.nextInt(6) == 0 && text.length() > 0) {
            text.setLength(random.nextInt(text.length()));
        }
        return text.toString();
    }

    private void change() {
        for (int i = random.nextInt(4); i > 0; i--) {
            int a = random.nextInt(7) - 1;
            int b = random.nextInt(7) - 1;
            boolean ships = model.isShip(a) && model.isShip(b) && a != b;
            int[] given = model.meet(a, b);
            due("meet " + a + " " + b, sea.meet(a, b), given == null ? ships ? -3 : -1 : 100 * given[0] + given[1]);
        }
        if (random.nextInt(3) == 0) {
            read(brokenText());
        }
        if (random.nextInt(3) == 0) {
            command(random.nextInt(6), random.nextInt(8), random.nextInt(10));
        }
        if (random.nextInt(4) == 0) {
            image = model.copy();
            due("image", sea.image(), image.meetings);
        }
        if (random.nextInt(6) == 0) {
            model = image == null ? model : image.copy();
            due("restore", sea.restore(), image == null ? -3 : image.meetings);
        }
    }

    private void command(int ship, int kind, int figure) {
        due("keep", sea.keep(3, 1, kind, figure), 0);
        due("commands", sea.commands(3, ship), model.isShip(ship) ? 0 : -1);
        if (model.isShip(ship)) {
            model.ships.get(ship).kind = kind;
            model.ships.get(ship).figure = figure;
        }
    }

    private void pictures() {
        int without = 0;
        int most = 0;
        for (int s = 0; s < model.ships.size(); s++) {
            Model.Ship ship = model.ships.get(s);
            due("kind", sea.ship(s, 0), ship.kind);
            due("figure", sea.ship(s, 1), ship.figure);
            due("how many", sea.ship(s, 2), ship.crew.size());
            due("who", sea.ship(s, 3), Model.bits(ship.crew));
            due("gives", sea.ship(s, 4), model.gives(s));
            without += ship.crew.isEmpty() ? 1 : 0;
            most = Math.max(most, ship.crew.size());
        }
        int never = 0;
        for (int m = 0; m < model.men.size(); m++) {
            Model.Man man = model.men.get(m);
            due("ship of " + m, sea.man(m, 0), model.shipOf(m));
            due("trade", sea.man(m, 1), man.trade);
            due("tongue", sea.man(m, 2), man.tongue);
            due("since", sea.man(m, 3), man.since);
            due("sailed", sea.sailed(m), Model.bits(man.sailed));
            never += model.men.size() - 1 - man.sailed.size();
        }
        due("never", sea.never(), never / 2);
        due("mixed", sea.mixed(), model.mixed());
        due("mixes most", sea.mixesMost(), mixesMost());
        int[] counts = {model.ships.size(), model.men.size(), model.meetings, without, most};
        for (int what = 0; what < 5; what++) {
            due("count " + what, sea.count(what), counts[what]);
        }
        lacks();
    }

    private void lacks() {
        for (int trade = 0; trade < 4; trade++) {
            int due = 0;
            for (int s = 0; s < model.ships.size(); s++) {
                boolean has = false;
                for (int m : model.ships.get(s).crew) {
                    has |= model.men.get(m).trade == trade;
                }
                due |= has ? 0 : 1 << s;
            }
            due("lacks " + trade, sea.lacks(trade), due);
        }
    }

    private int mixesMost() {
        int best = -4;
        int most = -1;
        for (int name = 0; name < 50; name++) {
            Model next = model.copy();
            if (name / 10 < name % 10 && next.meet(name / 10, name % 10) != null && next.mixed() > most) {
                most = next.mixed();
                best = name;
            }
        }
        return best;
    }

    /** Now and then one that isn't as told. */
    private int[] someRow(int meetings) {
        int[] row = new int[2 * meetings];
        int ships = model.ships.size();
        for (int i = 0; i < row.length; i += 2) {
            row[i] = random.nextInt(ships);
            row[i + 1] = ships == 1 ? 1 : (row[i] + 1 + random.nextInt(ships - 1)) % ships;
        }
        if (random.nextInt(12) == 0 && row.length > 0) {
            row[random.nextInt(row.length)] = random.nextInt(8) - 1;
        }
        Sea.bytes(sea, 1, row);
        return row;
    }

    private boolean isAsTold(int[] row) {
        for (int i = 0; i < row.length; i += 2) {
            if (!model.isShip(row[i]) || !model.isShip(row[i + 1]) || row[i] == row[i + 1]) {
                return false;
            }
        }
        return true;
    }

    private void byRow(int[] row) {
        int man = random.nextInt(14) - 1;
        int other = random.nextInt(12);
        int kind = random.nextInt(8);
        int figure = random.nextInt(10);
        boolean isMan = man >= 0 && man < model.men.size();
        if (!isMan || !isAsTold(row)) {
            int due = isMan ? -13 : -1;
            due("where", sea.where(man, 1), due);
            due("letter", sea.letter(man, 1), due);
            due("moved", sea.moved(man, 1), due);
            due("law", sea.law(man, 1, kind, figure), due);
            return;
        }
        Model next = model.copy();
        TreeSet<Integer> readers = new TreeSet<>();
        readers.add(man);
        spread(next, readers);
        int moved = 0;
        for (int i = 0; i < row.length; i += 2) {
            int[] given = next.meet(row[i], row[i + 1]);
            moved += given != null && (given[0] == man || given[1] == man) ? 1 : 0;
            spread(next, readers);
        }
        due("where " + man, sea.where(man, 1), next.shipOf(man));
        due("letter " + man, sea.letter(man, 1), Model.bits(readers));
        due("moved " + man, sea.moved(man, 1), moved);
        due("law " + man + " " + kind + " " + figure, sea.law(man, 1, kind, figure), law(man, row, kind, figure));
        due("together " + man + " " + other, sea.together(man, other, 1), together(man, other, row));
    }

    private static void spread(Model next, TreeSet<Integer> readers) {
        TreeSet<Integer> before = new TreeSet<>(readers);
        for (Model.Ship ship : next.ships) {
            for (int m : ship.crew) {
                if (before.contains(m)) {
                    readers.addAll(ship.crew);
                }
            }
        }
    }

    private int law(int man, int[] row, int kind, int figure) {
        Model next = model.copy();
        for (Model.Ship ship : next.ships) {
            ship.kind = kind;
            ship.figure = figure;
        }
        int elsewhere = 0;
        for (int i = 0; i < row.length; i += 2) {
            next.meet(row[i], row[i + 1]);
            elsewhere += next.shipOf(man) == model.shipOf(man) ? 0 : 1;
        }
        return elsewhere;
    }

    private int together(int man, int other, int[] row) {
        if (other >= model.men.size() || man == other) {
            return -1;
        }
        if (model.shipOf(man) != model.shipOf(other)) {
            return -3;
        }
        Model next = model.copy();
        int still = 0;
        boolean so = true;
        for (int i = 0; i < row.length; i += 2) {
            next.meet(row[i], row[i + 1]);
            so = so && next.shipOf(man) == next.shipOf(other);
            still += so ? 1 : 0;
        }
        return still;
    }

    private void chosen(int[] row) {
        int man = random.nextInt(12);
        int ship = random.nextInt(5);
        if (man >= model.men.size() || ship >= model.ships.size() || !isAsTold(row)) {
            int due = man >= model.men.size() || ship >= model.ships.size() ? -1 : -13;
            due("soonest", sea.soonest(man, ship, 1), due);
            due("likely", sea.likely(man, ship, 1, 0), due - 1000000000L);
            return;
        }
        due("can " + man, sea.can(man, 1), model.can(man, row, 0));
        int soonest = -4;
        for (int k = row.length / 2; k >= 0; k--) {
            if ((model.can(man, java.util.Arrays.copyOf(row, 2 * k), 0) & 1 << ship) != 0) {
                soonest = k;
            }
        }
        due("soonest " + man + " " + ship, sea.soonest(man, ship, 1), soonest);
        if (row.length <= 4) {
            BigInteger[] likely = model.likely(man, ship, row, 0, 8);
            due("likely above", sea.likely(man, ship, 1, 0), likely[0].longValueExact());
            due("likely below", sea.likely(man, ship, 1, 1), likely[1].longValueExact());
        }
    }

    private void judge() {
        int[] told = new int[random.nextInt(25)];
        Model next = model.copy();
        int due = -4;
        for (int i = 0; i < told.length; i += 4) {
            int[] four = {random.nextInt(5), random.nextInt(5), 0, 0};
            int[] given = next.meet(four[0], four[1]);
            four[2] = given == null ? 0 : given[0];
            four[3] = given == null ? 0 : given[1];
            int wrong = random.nextInt(5) == 0 ? 2 + random.nextInt(2) : -1;
            if (wrong > 0) {
                four[wrong] += 1 + random.nextInt(3);
            }
            System.arraycopy(four, 0, told, i, Math.min(4, told.length - i));
            if (due == -4 && (told.length - i < 4 || given == null)) {
                due = i;
            } else if (due == -4 && wrong > 0) {
                due = i + wrong;
            }
        }
        Sea.row(sea, 2, random.nextInt(3), told);
        due("judge " + java.util.Arrays.toString(told), sea.judge(2), due);
    }

    private void seeded() {
        int man = random.nextInt(12);
        int n = 1 + random.nextInt(40);
        int z = random.nextInt();
        if (man >= model.men.size()) {
            due("seeded", sea.seeded(man, n, z), -1);
            return;
        }
        Model next = model.copy();
        long state = z;
        for (int i = 0; i < n; i++) {
            state = (int) (state * 1103515245L + 12345L);
            int one = (int) ((state & 0x7fffffffL) / 65536 % model.ships.size());
            state = (int) (state * 1103515245L + 12345L);
            int other = (int) ((state & 0x7fffffffL) / 65536 % model.ships.size());
            next.meet(one, other);
        }
        due("seeded " + man + " " + n + " " + z, sea.seeded(man, n, z), next.shipOf(man));
    }

    private void crewsTold() {
        Model goal = model.copy();
        for (int i = random.nextInt(5); i > 0; i--) {
            goal.meet(random.nextInt(5), random.nextInt(5));
        }
        int[] told = new int[model.men.size()];
        for (int m = 0; m < told.length; m++) {
            told[m] = goal.shipOf(m);
        }
        if (told.length > 1 && random.nextInt(4) == 0) {
            told[0] = told[1];
        }
        Sea.bytes(sea, 2, told);
        Predicate<Model> so = next -> {
            for (int m = 0; m < told.length; m++) {
                if (next.shipOf(m) != told[m]) {
                    return false;
                }
            }
            return true;
        };
        int due = -4;
        for (int many = 3; many >= 0; many--) {
            due = model.series(many, so) == null ? due : many;
        }
        due("crews " + java.util.Arrays.toString(told), sea.crews(2), due);
    }

    private void search() {
        if (model.men.isEmpty()) {
            due("fewest", sea.fewest(0, 0, 0), -1);
            return;
        }
        int man = random.nextInt(model.men.size());
        int ship = random.nextInt(model.ships.size());
        int due = -4;
        int first = -4;
        for (int many = 0; many <= 4 && due == -4; many++) {
            int[] series = model.series(many, next -> next.shipOf(man) == ship);
            if (series != null) {
                due = many;
                first = many == 0 ? -4 : series[0];
            }
        }
        due("fewest " + man + " " + ship, sea.fewest(man, ship, 0), due);
        due("first of fewest " + man + " " + ship, sea.fewest(man, ship, 1), first);
    }
}
