/** Ships that meet change a sailor; ../shared/DOC.md promises what each call answers. */
public final class ShipsThatMeet {
    private static final int MOST_SHIPS = 5;
    private static final int MOST_MEN = 12;
    private static final int KINDS = 8;
    private static final int FIGURES = 10;
    private static final int TRADES = 4;
    private static final int TONGUES = 4;
    private static final int SHELVES = 8;
    private static final int SORTS = 3;
    private static final int MOST_ELEMENTS = 100;
    private static final int MOST_MEETINGS_TOLD = 12;
    private static final int MOST_MEETINGS_BY_LOT = 8;
    private static final int MOST_MEETINGS_SEEDED = 40;
    private static final int LONGEST_WAY = 4;
    private static final int LONGEST_CHANGE_OF_CREWS = 3;
    /** In place of a ship where a man is wanted. */
    private static final int ANYWHERE = -1;

    private static final int NO_SUCH = -1;
    private static final int NOT_NOW = -3;
    private static final int NONE = -4;
    private static final int NOTHING_HELD = -11;
    private static final int OTHER_KIND = -12;
    private static final int NO_PLACE = -13;
    private static final int SIZE_BELOW_ZERO = -14;
    private static final int NO_FAILURE = -15;
    private static final long FURTHER_FOR_LONGS = 1000000000L;

    private final Fleet real;
    /** What calls try out without a trace; each call that uses it fills it anew. */
    private final Fleet mind;
    private final Fleet imageFleet;
    private boolean imageTaken;
    private final Shelf[] shelves;
    /** A row for each depth of a search, so that a search makes none. */
    private final int[][] giversByDepth;
    /** The ship where a search wants each man. */
    private final int[] wanted;
    private final long[] chances;

    public ShipsThatMeet() {
        real = new Fleet();
        mind = new Fleet();
        imageFleet = new Fleet();
        imageTaken = false;
        shelves = new Shelf[SHELVES];
        for (int d = 0; d < SHELVES; d++) {
            shelves[d] = new Shelf();
        }
        giversByDepth = new int[LONGEST_WAY + 1][MOST_SHIPS];
        wanted = new int[MOST_MEN];
        chances = new long[MOST_SHIPS];
    }

    // ---- fleets

    public int fleet(int d) {
        int refusal = refusalOfBytes(d);
        if (refusal < 0) {
            return refusal;
        }
        Shelf text = shelves[d];
        int fault = faultOfForm(text);
        if (fault >= 0) {
            return -1000 - fault;
        }
        mind.become(real);
        int statements = 0;
        for (int place = 0; place < text.size; place += 1 + signsBehind(text.at(place))) {
            if (!isCarriedOut(mind, text, place)) {
                return -2000 - place;
            }
            statements++;
        }
        real.become(mind);
        return statements;
    }

    public int ship(int ship, int what) {
        if (!real.isShip(ship)) {
            return NO_SUCH;
        }
        switch (what) {
            case 0:
                return real.captains[ship].kind;
            case 1:
                return real.captains[ship].figure;
            case 2:
                return Integer.bitCount(real.crews[ship]);
            case 3:
                return real.crews[ship];
            case 4:
                return real.giver(ship);
            default:
                return NO_SUCH;
        }
    }

    public int man(int man, int what) {
        if (!real.isMan(man)) {
            return NO_SUCH;
        }
        switch (what) {
            case 0:
                return real.aboard[man];
            case 1:
                return real.trades[man];
            case 2:
                return real.tongues[man];
            case 3:
                return real.since[man];
            default:
                return NO_SUCH;
        }
    }

    public int commands(int d, int ship) {
        if (!real.isShip(ship)) {
            return NO_SUCH;
        }
        int refusal = refusalOfCaptain(d);
        if (refusal < 0) {
            return refusal;
        }
        real.captains[ship] = shelves[d].captain;
        return 0;
    }

    // ---- meetings

    public int meet(int one, int other) {
        if (!real.areUnlikeShips(one, other)) {
            return NO_SUCH;
        }
        if (!real.canMeet(one, other)) {
            return NOT_NOW;
        }
        int gifts = 100 * real.giver(one) + real.giver(other);
        real.holdMeeting(one, other);
        return gifts;
    }

    public int where(int man, int d) {
        int refusal = refusalOfManAndMeetings(man, d);
        if (refusal < 0) {
            return refusal;
        }
        Shelf told = shelves[d];
        mind.become(real);
        for (int meeting = 0; meeting < told.meetings(); meeting++) {
            mind.holdTold(told, meeting);
        }
        return mind.aboard[man];
    }

    public int can(int man, int d) {
        int refusal = refusalOfManAndMeetings(man, d);
        if (refusal < 0) {
            return refusal;
        }
        Shelf told = shelves[d];
        int possible = 1 << real.aboard[man];
        for (int meeting = 0; meeting < told.meetings(); meeting++) {
            possible = choicesBehind(possible, told.one(meeting), told.other(meeting));
        }
        return possible;
    }

    public int soonest(int man, int ship, int d) {
        if (!real.isShip(ship)) {
            return NO_SUCH;
        }
        int refusal = refusalOfManAndMeetings(man, d);
        if (refusal < 0) {
            return refusal;
        }
        Shelf told = shelves[d];
        int possible = 1 << real.aboard[man];
        for (int meeting = 0; meeting < told.meetings(); meeting++) {
            if (has(possible, ship)) {
                return meeting;
            }
            possible = choicesBehind(possible, told.one(meeting), told.other(meeting));
        }
        return has(possible, ship) ? told.meetings() : NONE;
    }

    public long likely(int man, int ship, int d, int part) {
        if (!real.isShip(ship) || part < 0 || part > 1) {
            return NO_SUCH - FURTHER_FOR_LONGS;
        }
        int refusal = refusalOfManAndMeetings(man, d);
        if (refusal < 0) {
            return refusal - FURTHER_FOR_LONGS;
        }
        long below = fillChances(man, shelves[d]);
        long above = chances[ship];
        long divisor = commonDivisor(above, below);
        if (divisor < 1) {
            divisor = 1;
        }
        return (part == 0 ? above : below) / divisor;
    }

    public int fewest(int man, int ship, int what) {
        if (!real.isMan(man) || !real.isShip(ship) || what < 0 || what > 1) {
            return NO_SUCH;
        }
        for (int other = 0; other < MOST_MEN; other++) {
            wanted[other] = other == man ? ship : ANYWHERE;
        }
        int meetings = fewestMeetings(LONGEST_WAY);
        return what == 0 ? meetings : firstOfWay(mind, giversByDepth, wanted, meetings);
    }

    public int crews(int d) {
        int refusal = refusalOfBytes(d);
        if (refusal < 0) {
            return refusal;
        }
        Shelf told = shelves[d];
        if (!tellsOfEachMan(told)) {
            return NO_PLACE;
        }
        for (int man = 0; man < MOST_MEN; man++) {
            wanted[man] = man < told.size ? told.at(man) : ANYWHERE;
        }
        return fewestMeetings(LONGEST_CHANGE_OF_CREWS);
    }

    // ---- who with whom

    public int sailed(int man) {
        return real.isMan(man) ? real.companions[man] : NO_SUCH;
    }

    public int never() {
        int pairs = 0;
        for (int one = 0; one < real.men; one++) {
            for (int other = one + 1; other < real.men; other++) {
                if (!has(real.companions[one], other)) {
                    pairs++;
                }
            }
        }
        return pairs;
    }

    public int mixed() {
        return real.mixedPairs();
    }

    public int mixesMost() {
        int best = NONE;
        int most = -1;
        for (int one = 0; one < real.ships; one++) {
            for (int other = one + 1; other < real.ships; other++) {
                if (real.canMeet(one, other)) {
                    mind.become(real);
                    mind.holdMeeting(one, other);
                    int pairs = mind.mixedPairs();
                    if (pairs > most) {
                        most = pairs;
                        best = nameOfMeeting(one, other);
                    }
                }
            }
        }
        return best;
    }

    public int lacks(int trade) {
        if (trade < 0 || trade >= TRADES) {
            return NO_SUCH;
        }
        int lacking = 0;
        for (int ship = 0; ship < real.ships; ship++) {
            if (!real.hasTrade(ship, trade)) {
                lacking |= 1 << ship;
            }
        }
        return lacking;
    }

    // ---- letters, laws, two

    public int letter(int man, int d) {
        int refusal = refusalOfManAndMeetings(man, d);
        if (refusal < 0) {
            return refusal;
        }
        Shelf told = shelves[d];
        mind.become(real);
        int readers = mind.withShipmates(1 << man);
        for (int meeting = 0; meeting < told.meetings(); meeting++) {
            mind.holdTold(told, meeting);
            readers = mind.withShipmates(readers);
        }
        return readers;
    }

    public int law(int man, int d, int kind, int figure) {
        if (!isKindAndFigure(kind, figure)) {
            return NO_SUCH;
        }
        int refusal = refusalOfManAndMeetings(man, d);
        if (refusal < 0) {
            return refusal;
        }
        Shelf told = shelves[d];
        mind.become(real);
        mind.setAllCaptains(captainOf(kind, figure));
        int elsewhere = 0;
        for (int meeting = 0; meeting < told.meetings(); meeting++) {
            mind.holdTold(told, meeting);
            if (mind.aboard[man] != real.aboard[man]) {
                elsewhere++;
            }
        }
        return elsewhere;
    }

    public int together(int one, int other, int d) {
        if (!real.isMan(one) || !real.isMan(other) || one == other || !isShelf(d)) {
            return NO_SUCH;
        }
        if (real.aboard[one] != real.aboard[other]) {
            return NOT_NOW;
        }
        int refusal = refusalOfMeetings(d);
        if (refusal < 0) {
            return refusal;
        }
        Shelf told = shelves[d];
        mind.become(real);
        for (int meeting = 0; meeting < told.meetings(); meeting++) {
            mind.holdTold(told, meeting);
            if (mind.aboard[one] != mind.aboard[other]) {
                return meeting;
            }
        }
        return told.meetings();
    }

    public int moved(int man, int d) {
        int refusal = refusalOfManAndMeetings(man, d);
        if (refusal < 0) {
            return refusal;
        }
        Shelf told = shelves[d];
        mind.become(real);
        int moves = 0;
        for (int meeting = 0; meeting < told.meetings(); meeting++) {
            int before = mind.aboard[man];
            mind.holdTold(told, meeting);
            if (mind.aboard[man] != before) {
                moves++;
            }
        }
        return moves;
    }

    public int seeded(int man, int n, int z) {
        if (!real.isMan(man) || n < 1 || n > MOST_MEETINGS_SEEDED) {
            return NO_SUCH;
        }
        mind.become(real);
        int seed = z;
        for (int meeting = 0; meeting < n; meeting++) {
            seed = nextSeed(seed);
            int one = drawBelow(mind.ships, seed);
            seed = nextSeed(seed);
            int other = drawBelow(mind.ships, seed);
            mind.holdMeeting(one, other);
        }
        return mind.aboard[man];
    }

    public int judge(int d) {
        int refusal = refusalOfRow(d);
        if (refusal < 0) {
            return refusal;
        }
        Shelf told = shelves[d];
        mind.become(real);
        int place = 0;
        for (; place + 3 < told.size; place += 4) {
            int fault = faultOfGifts(mind, told, place);
            if (fault >= 0) {
                return fault;
            }
            mind.holdMeeting(told.at(place), told.at(place + 1));
        }
        return place < told.size ? place : NONE;
    }

    // ---- the image, what is told

    public int image() {
        imageFleet.become(real);
        imageTaken = true;
        return real.meetings;
    }

    public int restore() {
        if (!imageTaken) {
            return NOT_NOW;
        }
        real.become(imageFleet);
        return real.meetings;
    }

    public int count(int what) {
        switch (what) {
            case 0:
                return real.ships;
            case 1:
                return real.men;
            case 2:
                return real.meetings;
            case 3:
                return real.shipsWithoutMen();
            case 4:
                return real.mostAboard();
            default:
                return NO_SUCH;
        }
    }

    // ---- shelves

    public int keep(int d, int what, int k, int figure) {
        if (!isShelf(d) || what < 0 || what > 1) {
            return NO_SUCH;
        }
        if (what == 0) {
            shelves[d].holdNothing();
            return 0;
        }
        if (!isKindAndFigure(k, figure)) {
            return NO_SUCH;
        }
        shelves[d].holdCaptain(captainOf(k, figure));
        return 0;
    }

    public int row(int d, int sort, int n) {
        if (!isShelf(d) || sort < 0 || sort >= SORTS || n > MOST_ELEMENTS) {
            return NO_SUCH;
        }
        if (n < 0) {
            return SIZE_BELOW_ZERO;
        }
        shelves[d].holdRow(sort, n);
        return 0;
    }

    public int put(int d, int i, int v) {
        int refusal = refusalOfRow(d);
        if (refusal < 0) {
            return refusal;
        }
        if (!shelves[d].hasPlace(i)) {
            return NO_PLACE;
        }
        shelves[d].write(i, v);
        return 0;
    }

    public long element(int d, int i) throws IllegalArgumentException, IllegalStateException {
        if (!isShelf(d)) {
            throw new IllegalArgumentException("no such shelf");
        }
        if (!shelves[d].holdsRow()) {
            throw new IllegalStateException("no row");
        }
        if (!shelves[d].hasPlace(i)) {
            throw new IllegalStateException("no such place");
        }
        return shelves[d].at(i);
    }

    public int copy(int d, int i, int e, int j, int n) {
        if (!isShelf(d) || !isShelf(e)) {
            return NO_SUCH;
        }
        Shelf source = shelves[d];
        Shelf target = shelves[e];
        if (source.holdsNothing() || target.holdsNothing()) {
            return NOTHING_HELD;
        }
        if (!source.holdsRow() || !target.holdsRow() || source.sort != target.sort) {
            return OTHER_KIND;
        }
        if (!source.hasStretch(i, n) || !target.hasStretch(j, n)) {
            return NO_PLACE;
        }
        System.arraycopy(source.elements, i, target.elements, j, n);
        return n;
    }

    public int pay(int d) {
        int refusal = refusalOfCaptain(d);
        return refusal < 0 ? refusal : shelves[d].captain.wages();
    }

    public int toss(int d) {
        int refusal = refusalOfCaptain(d);
        if (refusal < 0) {
            return refusal;
        }
        Captain captain = shelves[d].captain;
        try {
            captain.fail();
        } catch (IllegalStateException failure) {
            return captain.worthOfFailure();
        }
        return NO_FAILURE;
    }

    // ---- refusals

    private static boolean isShelf(int d) {
        return d >= 0 && d < SHELVES;
    }

    private static boolean isKindAndFigure(int kind, int figure) {
        return kind >= 0 && kind < KINDS && figure >= 0 && figure < FIGURES;
    }

    private int refusalOfCaptain(int d) {
        if (!isShelf(d)) {
            return NO_SUCH;
        }
        if (shelves[d].holdsNothing()) {
            return NOTHING_HELD;
        }
        return shelves[d].captain == null ? OTHER_KIND : 0;
    }

    private int refusalOfRow(int d) {
        if (!isShelf(d)) {
            return NO_SUCH;
        }
        if (shelves[d].holdsNothing()) {
            return NOTHING_HELD;
        }
        return shelves[d].holdsRow() ? 0 : OTHER_KIND;
    }

    private int refusalOfBytes(int d) {
        int refusal = refusalOfRow(d);
        if (refusal < 0) {
            return refusal;
        }
        return shelves[d].sort == 0 ? 0 : OTHER_KIND;
    }

    private int refusalOfMeetings(int d) {
        int refusal = refusalOfBytes(d);
        if (refusal < 0) {
            return refusal;
        }
        Shelf told = shelves[d];
        if (told.size % 2 != 0 || told.size > 2 * MOST_MEETINGS_TOLD) {
            return NO_PLACE;
        }
        for (int meeting = 0; meeting < told.meetings(); meeting++) {
            if (!real.areUnlikeShips(told.one(meeting), told.other(meeting))) {
                return NO_PLACE;
            }
        }
        return 0;
    }

    private int refusalOfManAndMeetings(int man, int d) {
        return real.isMan(man) ? refusalOfMeetings(d) : NO_SUCH;
    }

    private boolean tellsOfEachMan(Shelf told) {
        if (told.size != real.men) {
            return false;
        }
        for (int man = 0; man < told.size; man++) {
            if (!real.isShip(told.at(man))) {
                return false;
            }
        }
        return true;
    }

    // ---- fleets as texts

    /** How many signs a statement has behind its letter; 0 if no statement begins so. */
    private static int signsBehind(int letter) {
        switch (letter) {
            case 's':
            case 'x':
                return 3;
            case 'm':
                return 4;
            default:
                return 0;
        }
    }

    private static int faultOfForm(Shelf text) {
        int awaited = 0;
        for (int place = 0; place < text.size; place++) {
            int sign = text.at(place);
            if (awaited == 0) {
                awaited = signsBehind(sign);
                if (awaited == 0) {
                    return place;
                }
            } else {
                boolean fits = awaited == 1 ? sign == ';' : sign >= '0' && sign <= '9';
                if (!fits) {
                    return place;
                }
                awaited--;
            }
        }
        return awaited == 0 && text.size > 0 ? NONE : text.size;
    }

    private static int digit(Shelf text, int place) {
        return text.at(place) - '0';
    }

    private static boolean isCarriedOut(Fleet fleet, Shelf text, int place) {
        int first = digit(text, place + 1);
        int second = digit(text, place + 2);
        switch (text.at(place)) {
            case 's':
                return isKindAndFigure(first, second) && fleet.takesShip(captainOf(first, second));
            case 'm':
                return fleet.takesMan(first, second, digit(text, place + 3));
            case 'x':
                return fleet.holdMeeting(first, second);
            default:
                return false;
        }
    }

    // ---- in mind

    private static boolean has(int bits, int number) {
        return (bits & (1 << number)) != 0;
    }

    private static int nameOfMeeting(int one, int other) {
        return 10 * Math.min(one, other) + Math.max(one, other);
    }

    /** Crews keep their sizes at every meeting, so the real ones tell who may stay. */
    private int choicesBehind(int possible, int one, int other) {
        if (!real.canMeet(one, other)) {
            return possible;
        }
        int behind = possible & ~(1 << one) & ~(1 << other);
        if (has(possible, one)) {
            behind |= (1 << other) | (real.isAlone(one) ? 0 : 1 << one);
        }
        if (has(possible, other)) {
            behind |= (1 << one) | (real.isAlone(other) ? 0 : 1 << other);
        }
        return behind;
    }

    /** Fills the numerators for all ships; the answer is their common denominator. */
    private long fillChances(int man, Shelf told) {
        for (int ship = 0; ship < MOST_SHIPS; ship++) {
            chances[ship] = ship == real.aboard[man] ? 1 : 0;
        }
        long below = 1;
        for (int meeting = 0; meeting < told.meetings() && meeting < MOST_MEETINGS_BY_LOT; meeting++) {
            if (real.canMeet(told.one(meeting), told.other(meeting))) {
                below *= spreadChances(told.one(meeting), told.other(meeting));
            }
        }
        return below;
    }

    /** At most twelve men share two ships: the factor is 36 at most, and eight of it fit a long. */
    private long spreadChances(int one, int other) {
        long crewOfOne = Integer.bitCount(real.crews[one]);
        long crewOfOther = Integer.bitCount(real.crews[other]);
        long factor = crewOfOne * crewOfOther;
        long atOne = chances[one];
        long atOther = chances[other];
        for (int ship = 0; ship < MOST_SHIPS; ship++) {
            chances[ship] *= factor;
        }
        chances[one] = atOne * (crewOfOne - 1) * crewOfOther + atOther * crewOfOne;
        chances[other] = atOther * (crewOfOther - 1) * crewOfOne + atOne * crewOfOther;
        return factor;
    }

    private static long commonDivisor(long above, long below) {
        long greater = below;
        long lesser = above;
        for (int step = 0; step < 200 && lesser != 0; step++) {
            long rest = greater % lesser;
            greater = lesser;
            lesser = rest;
        }
        return greater;
    }

    private int fewestMeetings(int longest) {
        mind.become(real);
        if (mind.firstAstray(wanted) < 0) {
            return 0;
        }
        for (int meetings = 1; meetings <= longest; meetings++) {
            if (firstOfWay(mind, giversByDepth, wanted, meetings) != NONE) {
                return meetings;
            }
        }
        return NONE;
    }

    /**
     * The first meeting of the first way of just so many meetings by which all are where they are
     * wanted. Shorter ways have been tried in vain by then; each meeting brings two men home at most.
     */
    private static int firstOfWay(Fleet mind, int[][] giversByDepth, int[] wanted, int meetings) {
        if (meetings < 1 || meetings >= giversByDepth.length) {
            return NONE;
        }
        if (meetings == 1) {
            return mind.lastMeeting(wanted);
        }
        if (mind.astray(wanted) > 2 * meetings) {
            return NONE;
        }
        int[] givers = giversByDepth[meetings];
        mind.fillGivers(givers);
        for (int one = 0; one < mind.ships; one++) {
            for (int other = one + 1; other < mind.ships; other++) {
                if (givers[one] >= 0 && givers[other] >= 0) {
                    int sinceOfOne = mind.since[givers[one]];
                    int sinceOfOther = mind.since[givers[other]];
                    mind.exchange(one, other, givers[one], givers[other]);
                    int next = firstOfWay(mind, giversByDepth, wanted, meetings - 1);
                    mind.takeBack(one, other, givers[one], givers[other], sinceOfOne, sinceOfOther);
                    if (next != NONE) {
                        return nameOfMeeting(one, other);
                    }
                }
            }
        }
        return NONE;
    }

    private static int nextSeed(int seed) {
        return seed * 1103515245 + 12345;
    }

    private static int drawBelow(int n, int seed) {
        return n < 1 ? 0 : (seed & 0x7fffffff) / 65536 % n;
    }

    /** The place of what isn't so in the four from a place on; NONE if all is. */
    private static int faultOfGifts(Fleet mind, Shelf told, int place) {
        int one = told.at(place);
        int other = told.at(place + 1);
        if (!mind.canMeet(one, other)) {
            return place;
        }
        if (told.at(place + 2) != mind.giver(one)) {
            return place + 2;
        }
        return told.at(place + 3) == mind.giver(other) ? NONE : place + 3;
    }

    // ---- captains

    private static Captain captainOf(int kind, int figure) {
        switch (kind) {
            case 1:
                return new Lot(figure);
            case 2:
                return new New(kind, figure);
            case 3:
                return new Old(kind, figure);
            case 4:
                return new Want(kind, figure);
            case 5:
                return new Best(figure);
            case 6:
                return new Told(figure);
            case 7:
                return new Keep(figure);
            default:
                return new Captain(0, figure);
        }
    }

    /** A captain never changes, so ships, shelves and the image may share one. */
    private static class Captain {
        final int kind;
        final int figure;

        Captain(int kind, int figure) {
            this.kind = kind;
            this.figure = figure;
        }

        /** Whom he gives of a crew (bits); NONE of nobody. */
        int gift(Fleet fleet, int crew) {
            for (int man = 0; man < MOST_MEN; man++) {
                if (has(crew, man)) {
                    return man;
                }
            }
            return NONE;
        }

        int wages() {
            return 6;
        }

        void fail() {
            if (figure != 0) {
                throw new IllegalStateException("a captain's failure");
            }
        }

        int worthOfFailure() {
            return figure;
        }
    }

    private static final class Lot extends Captain {
        Lot(int figure) {
            super(1, figure);
        }

        int gift(Fleet fleet, int crew) {
            int size = Integer.bitCount(crew);
            int ahead = size < 1 ? 0 : figure % size;
            for (int man = 0; man < MOST_MEN; man++) {
                if (has(crew, man)) {
                    if (ahead == 0) {
                        return man;
                    }
                    ahead--;
                }
            }
            return NONE;
        }

        int wages() {
            return super.wages() + figure;
        }
    }

    private static class New extends Captain {
        New(int kind, int figure) {
            super(kind, figure);
        }

        int gift(Fleet fleet, int crew) {
            int newest = NONE;
            for (int man = 0; man < MOST_MEN; man++) {
                if (has(crew, man) && (newest < 0 || fleet.since[man] >= fleet.since[newest])) {
                    newest = man;
                }
            }
            return newest;
        }

        int wages() {
            return super.wages() - 1;
        }
    }

    private static class Old extends New {
        Old(int kind, int figure) {
            super(kind, figure);
        }

        int gift(Fleet fleet, int crew) {
            int oldest = NONE;
            for (int man = 0; man < MOST_MEN; man++) {
                if (has(crew, man) && (oldest < 0 || fleet.since[man] < fleet.since[oldest])) {
                    oldest = man;
                }
            }
            return oldest;
        }

        int wages() {
            return 2 * super.wages();
        }
    }

    private static class Want extends Captain {
        Want(int kind, int figure) {
            super(kind, figure);
        }

        /** Those of another trade than the wanted one; all, if there is none. */
        int unwanted(Fleet fleet, int crew) {
            int others = 0;
            for (int man = 0; man < MOST_MEN; man++) {
                if (has(crew, man) && fleet.trades[man] != figure % TRADES) {
                    others |= 1 << man;
                }
            }
            return others == 0 ? crew : others;
        }

        int gift(Fleet fleet, int crew) {
            return super.gift(fleet, unwanted(fleet, crew));
        }

        int wages() {
            return super.wages() * (figure + 1);
        }
    }

    private static final class Best extends Want {
        Best(int figure) {
            super(5, figure);
        }

        int gift(Fleet fleet, int crew) {
            int choice = unwanted(fleet, crew);
            int best = NONE;
            int most = 0;
            for (int man = 0; man < MOST_MEN; man++) {
                if (has(choice, man)) {
                    int speakers = fleet.speakers(crew, fleet.tongues[man]);
                    if (speakers > most) {
                        most = speakers;
                        best = man;
                    }
                }
            }
            return best;
        }

        int wages() {
            return super.wages() + 3;
        }

        int worthOfFailure() {
            return super.worthOfFailure() + 100;
        }
    }

    private static final class Told extends Captain {
        Told(int figure) {
            super(6, figure);
        }

        int gift(Fleet fleet, int crew) {
            return has(crew, figure) ? figure : super.gift(fleet, crew);
        }

        int wages() {
            return super.wages() - figure;
        }

        void fail() {
            // he only does as he is told: there is nothing to throw
        }
    }

    private static final class Keep extends Old {
        Keep(int figure) {
            super(7, figure);
        }

        int gift(Fleet fleet, int crew) {
            int others = crew & ~(1 << figure);
            return super.gift(fleet, others == 0 ? crew : others);
        }

        int wages() {
            return super.wages() + figure;
        }

        int worthOfFailure() {
            return 200 + wages();
        }
    }

    // ---- what there is

    private static final class Fleet {
        int ships;
        int men;
        int meetings;
        final Captain[] captains;
        /** The men aboard each ship, as bits. */
        final int[] crews;
        final int[] aboard;
        final int[] trades;
        final int[] tongues;
        final int[] since;
        /** With whom each man has sailed, as bits. */
        final int[] companions;

        Fleet() {
            captains = new Captain[MOST_SHIPS];
            Captain nobody = new Captain(0, 0);
            for (int ship = 0; ship < MOST_SHIPS; ship++) {
                captains[ship] = nobody;
            }
            crews = new int[MOST_SHIPS];
            aboard = new int[MOST_MEN];
            trades = new int[MOST_MEN];
            tongues = new int[MOST_MEN];
            since = new int[MOST_MEN];
            companions = new int[MOST_MEN];
        }

        void become(Fleet other) {
            ships = other.ships;
            men = other.men;
            meetings = other.meetings;
            for (int ship = 0; ship < MOST_SHIPS; ship++) {
                captains[ship] = other.captains[ship];
                crews[ship] = other.crews[ship];
            }
            for (int man = 0; man < MOST_MEN; man++) {
                aboard[man] = other.aboard[man];
                trades[man] = other.trades[man];
                tongues[man] = other.tongues[man];
                since[man] = other.since[man];
                companions[man] = other.companions[man];
            }
        }

        boolean isShip(int ship) {
            return ship >= 0 && ship < ships;
        }

        boolean isMan(int man) {
            return man >= 0 && man < men;
        }

        boolean areUnlikeShips(int one, int other) {
            return isShip(one) && isShip(other) && one != other;
        }

        boolean canMeet(int one, int other) {
            return areUnlikeShips(one, other) && crews[one] != 0 && crews[other] != 0;
        }

        boolean isAlone(int ship) {
            return Integer.bitCount(crews[ship]) == 1;
        }

        boolean takesShip(Captain captain) {
            if (ships >= MOST_SHIPS) {
                return false;
            }
            captains[ships] = captain;
            crews[ships] = 0;
            ships++;
            return true;
        }

        boolean takesMan(int ship, int trade, int tongue) {
            boolean fits = isShip(ship) && trade >= 0 && trade < TRADES && tongue >= 0 && tongue < TONGUES;
            if (!fits || men >= MOST_MEN) {
                return false;
            }
            aboard[men] = ship;
            trades[men] = trade;
            tongues[men] = tongue;
            since[men] = 0;
            companions[men] = 0;
            crews[ship] |= 1 << men;
            men++;
            acquaint(ship);
            return true;
        }

        int giver(int ship) {
            return isShip(ship) ? captains[ship].gift(this, crews[ship]) : NONE;
        }

        void fillGivers(int[] givers) {
            for (int ship = 0; ship < MOST_SHIPS && ship < givers.length; ship++) {
                givers[ship] = giver(ship);
            }
        }

        /** Whether the two could meet; if not, nothing is changed. */
        boolean holdMeeting(int one, int other) {
            if (!canMeet(one, other)) {
                return false;
            }
            exchange(one, other, giver(one), giver(other));
            acquaint(one);
            acquaint(other);
            return true;
        }

        void holdTold(Shelf told, int meeting) {
            holdMeeting(told.one(meeting), told.other(meeting));
        }

        void exchange(int one, int other, int manOfOne, int manOfOther) {
            if (!isMan(manOfOne) || !isMan(manOfOther)) {
                return;
            }
            bring(manOfOne, one, other);
            bring(manOfOther, other, one);
            meetings++;
            since[manOfOne] = meetings;
            since[manOfOther] = meetings;
        }

        /** Undoes an exchange; who sailed with whom is not touched by either. */
        void takeBack(int one, int other, int manOfOne, int manOfOther, int sinceOfOne, int sinceOfOther) {
            bring(manOfOne, other, one);
            bring(manOfOther, one, other);
            meetings--;
            since[manOfOne] = sinceOfOne;
            since[manOfOther] = sinceOfOther;
        }

        void bring(int man, int from, int to) {
            crews[from] &= ~(1 << man);
            crews[to] |= 1 << man;
            aboard[man] = to;
        }

        void acquaint(int ship) {
            for (int man = 0; man < men; man++) {
                if (aboard[man] == ship) {
                    companions[man] |= crews[ship] & ~(1 << man);
                }
            }
        }

        int speakers(int crew, int tongue) {
            int number = 0;
            for (int man = 0; man < men; man++) {
                if (has(crew, man) && tongues[man] == tongue) {
                    number++;
                }
            }
            return number;
        }

        boolean hasTrade(int ship, int trade) {
            for (int man = 0; man < men; man++) {
                if (aboard[man] == ship && trades[man] == trade) {
                    return true;
                }
            }
            return false;
        }

        int mixedPairs() {
            int pairs = 0;
            for (int one = 0; one < men; one++) {
                for (int other = one + 1; other < men; other++) {
                    if (aboard[one] == aboard[other] && tongues[one] != tongues[other]) {
                        pairs++;
                    }
                }
            }
            return pairs;
        }

        int withShipmates(int readers) {
            int all = readers;
            for (int ship = 0; ship < ships; ship++) {
                if ((crews[ship] & readers) != 0) {
                    all |= crews[ship];
                }
            }
            return all;
        }

        void setAllCaptains(Captain captain) {
            for (int ship = 0; ship < ships; ship++) {
                captains[ship] = captain;
            }
        }

        boolean isAstray(int man, int[] wanted) {
            return man < wanted.length && wanted[man] != ANYWHERE && wanted[man] != aboard[man];
        }

        int astray(int[] wanted) {
            int number = 0;
            for (int man = 0; man < men; man++) {
                if (isAstray(man, wanted)) {
                    number++;
                }
            }
            return number;
        }

        int firstAstray(int[] wanted) {
            for (int man = 0; man < men; man++) {
                if (isAstray(man, wanted)) {
                    return man;
                }
            }
            return NONE;
        }

        /** The only meeting by which all may come home at once: that of the first who is astray. */
        int lastMeeting(int[] wanted) {
            int man = firstAstray(wanted);
            if (man < 0) {
                return NONE;
            }
            int from = aboard[man];
            int to = wanted[man];
            if (!canMeet(from, to) || giver(from) != man) {
                return NONE;
            }
            int inReturn = giver(to);
            if (!isMan(inReturn)) {
                return NONE;
            }
            int sinceOfMan = since[man];
            int sinceOfReturn = since[inReturn];
            exchange(from, to, man, inReturn);
            boolean allAreHome = firstAstray(wanted) < 0;
            takeBack(from, to, man, inReturn, sinceOfMan, sinceOfReturn);
            return allAreHome ? nameOfMeeting(from, to) : NONE;
        }

        int shipsWithoutMen() {
            int number = 0;
            for (int ship = 0; ship < ships; ship++) {
                if (crews[ship] == 0) {
                    number++;
                }
            }
            return number;
        }

        int mostAboard() {
            int most = 0;
            for (int ship = 0; ship < ships; ship++) {
                most = Math.max(most, Integer.bitCount(crews[ship]));
            }
            return most;
        }
    }

    /** Holds a captain, a row (then its sort is not below 0), or nothing. */
    private static final class Shelf {
        Captain captain;
        int sort;
        int size;
        /** Made once for all rows that this shelf ever holds. */
        final int[] elements;

        Shelf() {
            captain = null;
            sort = -1;
            size = 0;
            elements = new int[MOST_ELEMENTS];
        }

        boolean holdsNothing() {
            return captain == null && sort < 0;
        }

        boolean holdsRow() {
            return sort >= 0;
        }

        void holdNothing() {
            captain = null;
            sort = -1;
            size = 0;
        }

        void holdCaptain(Captain newOne) {
            holdNothing();
            captain = newOne;
        }

        void holdRow(int newSort, int newSize) {
            holdNothing();
            sort = newSort;
            size = newSize;
            for (int place = 0; place < MOST_ELEMENTS; place++) {
                elements[place] = 0;
            }
        }

        boolean hasPlace(int place) {
            return place >= 0 && place < size;
        }

        boolean hasStretch(int from, int length) {
            return from >= 0 && length >= 0 && from <= size && length <= size - from;
        }

        /** An element; 0 where there is none. */
        int at(int place) {
            return hasPlace(place) ? elements[place] : 0;
        }

        /** How many meetings it tells, two ships for each. */
        int meetings() {
            return size / 2;
        }

        int one(int meeting) {
            return at(2 * meeting);
        }

        int other(int meeting) {
            return at(2 * meeting + 1);
        }

        void write(int place, int value) {
            if (!hasPlace(place)) {
                return;
            }
            switch (sort) {
                case 0:
                    elements[place] = (byte) value;
                    break;
                case 1:
                    elements[place] = (short) value;
                    break;
                default:
                    elements[place] = value;
                    break;
            }
        }
    }
}
