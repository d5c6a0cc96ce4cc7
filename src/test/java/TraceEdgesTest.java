/** What must leave no trace: calls in mind, texts with a fault, what came behind the image. */
public final class TraceEdgesTest {
    private static final String IN_MIND = "In mind (nothing stays)";
    private static final String NOTHING = "Without FAULT all of it comes; with one nothing.";
    private static final String RESTORED = "RESTORED all is as it was then.";
    /** Ship 0 with men 0 and 1, ship 1 with 2 and 3, ship 2 with 4, ship 3 with nobody. */
    private static final String FOUR = "s20;s30;s00;s00;m001;m010;m102;m123;m200;";
    private static final int SHIPS = 4;
    private static final int MEN = 5;
    /** How many calls look at things in mind. */
    private static final int CALLS = 15;

    public static void main(String[] args) {
        Edges edges = new Edges("TraceEdgesTest");
        list(edges);
        edges.run();
    }

    static void list(Edges edges) {
        callsInMind(edges);
        texts(edges);
        images(edges);
    }

    /**
     * Shelf 0 has a row of meetings, 1 of none, 2 of one with a ship that isn't there; 3 has crews as told,
     * 4 a ship too many among them; 5 has told gifts, 6 a captain.
     */
    private static Ships stocked() {
        Ships sea = Sea.of(FOUR);
        Sea.bytes(sea, 0, 0, 1, 2, 1, 0, 3, 0, 2);
        sea.row(1, Sea.BYTES, 0);
        Sea.bytes(sea, 2, 0, SHIPS);
        Sea.bytes(sea, 3, 0, 1, 0, 1, 2);
        Sea.bytes(sea, 4, 0, 0, 1, 1, SHIPS);
        Sea.bytes(sea, 5, 0, 1, 1, 2, 0, 1, 2, 3);
        sea.keep(6, 1, 6, 1);
        return sea;
    }

    /** One of the calls in mind, by a man and the row of a shelf. */
    private static long asked(Ships sea, int call, int man, int d) {
        switch (call) {
            case 0:
                return sea.where(man, d);
            case 1:
                return sea.can(man, d);
            case 2:
                return sea.soonest(man, 2, d);
            case 3:
                return sea.likely(man, 2, d, 0);
            case 4:
                return sea.likely(man, 2, d, 1);
            case 5:
                return sea.fewest(man, 2, 0);
            case 6:
                return sea.fewest(man, 2, 1);
            case 7:
                return sea.crews(3);
            case 8:
                return sea.mixesMost();
            case 9:
                return sea.letter(man, d);
            case 10:
                return sea.law(man, d, 7, 3);
            case 11:
                return sea.together(man, man ^ 1, d);
            case 12:
                return sea.moved(man, d);
            case 13:
                return sea.judge(5);
            default:
                return sea.seeded(man, 9, 99);
        }
    }

    private static void callsInMind(Edges edges) {
        edges.terms(7, IN_MIND, "each answers the same behind any other", is -> {
            for (int call = 0; call < CALLS; call++) {
                for (int man = 0; man < MEN; man++) {
                    for (int d = 0; d < 2; d++) {
                        sameBehindOthers(is, call, man, d);
                    }
                }
            }
        });
        edges.terms(7, IN_MIND, "each looks at how things are now", is -> {
            for (int call = 0; call < CALLS; call++) {
                for (int man = 0; man < MEN; man++) {
                    Ships sea = stocked();
                    sea.meet(0, 1);
                    long due = asked(sea, call, man, 0);
                    Ships again = stocked();
                    asked(again, call, man, 0);
                    again.meet(0, 1);
                    is.due("call " + call + " of man " + man + " behind a meeting", asked(again, call, man, 0), due);
                }
            }
        });
    }

    private static void sameBehindOthers(Edges.Edge is, int call, int man, int d) {
        Ships sea = stocked();
        long due = asked(sea, call, man, d);
        for (int other = 0; other < CALLS; other++) {
            asked(sea, other, 0, 0);
            is.due("call " + call + " of man " + man + " by shelf " + d + " behind call " + other, asked(sea, call, man, d), due);
        }
    }

    /** How many questions there are of each man. */
    private static final int QUESTIONS = CALLS + 18;

    /** A call that must not see more ships and men than there are; those in mind come first. */
    private static long question(Ships sea, int call, int man) {
        switch (call - CALLS) {
            case 0:
                return sea.soonest(man, SHIPS, 0);
            case 1:
                return sea.likely(man, SHIPS, 0, 0);
            case 2:
                return sea.fewest(man, SHIPS, 0);
            case 3:
                return sea.where(man, 2);
            case 4:
                return sea.crews(4);
            case 5:
                return sea.never();
            case 6:
                return sea.mixed();
            case 7:
                return sea.lacks(man % 4);
            case 8:
                return sea.commands(6, SHIPS);
            case 9:
                return sea.together(MEN, man, 0);
            case 10:
                return sea.meet(0, SHIPS);
            case 11:
                return sea.meet(0, 3);
            case 12:
                return sea.sailed(man);
            case 13:
                return sea.ship(man, 3);
            case 14:
                return sea.ship(man, 4);
            case 15:
                return sea.man(man, 0);
            case 16:
                return sea.man(man, 3);
            case 17:
                return sea.count(man);
            default:
                return asked(sea, call, man, 0);
        }
    }

    /** What is done, and is to leave no trace. */
    private interface Deed {
        void on(Edges.Edge is, Ships sea);
    }

    /** Each question has an object of its own: one that looks in mind may wipe out another's trace. */
    private static void noTrace(Edges.Edge is, Deed deed) {
        for (int call = 0; call < QUESTIONS; call++) {
            for (int man = 0; man <= MEN; man++) {
                Ships sea = stocked();
                long due = question(sea, call, man);
                deed.on(is, sea);
                is.due("question " + call + " of man " + man, question(sea, call, man), due);
            }
        }
    }

    private static void texts(Edges edges) {
        edges.terms(2, NOTHING, "no call sees the ship, the men, the meetings ahead of a fault of kind 2", is -> {
            noTrace(is, (of, sea) -> of.due("fleet", Sea.read(sea, "s11;m411;m300;m222;m000;x03;x04;m900;"), -2032));
        });
        edges.terms(2, NOTHING, "nor those ahead of one of kind 1", is -> {
            noTrace(is, (of, sea) -> of.due("fleet", Sea.read(sea, "s11;m411;m300;m222;m000;x03;x04;m00;"), -1035));
        });
        edges.terms(2, NOTHING, "a ship without men has none to meet with", is -> {
            Ships sea = Sea.of("s00;s00;m000;m001;");
            is.due("fleet", Sea.read(sea, "m100;m900;"), -2005);
            is.due("mixesMost()", sea.mixesMost(), -4);
            is.due("fleet, again", Sea.read(sea, "m100;m900;"), -2005);
            is.due("meet(0, 1)", sea.meet(0, 1), -3);
        });
        edges.terms(2, NOTHING, "one who is alone can't stay, in either order", is -> {
            Ships sea = Sea.of("s00;s00;m000;m000;m100;");
            Sea.bytes(sea, 0, 0, 1);
            Sea.bytes(sea, 1, 1, 0);
            is.due("fleet", Sea.read(sea, "m100;m900;"), -2005);
            is.due("can(2), ships 0 and 1", sea.can(2, 0), 1);
            is.due("can(2), ships 1 and 0", sea.can(2, 1), 1);
        });
        edges.terms(2, NOTHING, "another text comes as if there had been none", is -> {
            Ships sea = stocked();
            is.due("fleet, a fault", Sea.read(sea, "s11;m411;m300;m800;"), -2014);
            is.due("fleet", Sea.read(sea, "s23;m432;"), 2);
            is.due("ship(4, 0)", sea.ship(4, 0), 2);
            is.due("ship(4, 1)", sea.ship(4, 1), 3);
            is.due("ship(4, 3)", sea.ship(4, 3), 1 << MEN);
            is.due("ship(3, 3)", sea.ship(3, 3), 0);
            is.due("man(5, 1)", sea.man(MEN, 1), 3);
            is.due("man(5, 2)", sea.man(MEN, 2), 2);
            is.due("sailed(5)", sea.sailed(MEN), 0);
            is.due("man(6, 0)", sea.man(MEN + 1, 0), -1);
        });
    }

    private static void images(Edges edges) {
        edges.terms(25, RESTORED, "no call sees what came behind the image", is -> noTrace(is, (of, sea) -> {
            sea.image();
            of.due("fleet", Sea.read(sea, "s11;m411;m300;m222;m000;x03;x04;"), 7);
            sea.commands(6, 0);
            of.due("restore()", sea.restore(), 0);
        }));
        edges.terms(25, RESTORED, "another text comes as if there had been none", is -> {
            Ships sea = stocked();
            sea.image();
            is.due("fleet", Sea.read(sea, "s11;m411;m011;x04;"), 4);
            sea.restore();
            is.due("fleet, again", Sea.read(sea, "s23;m032;"), 2);
            is.due("ship(4, 0)", sea.ship(4, 0), 2);
            is.due("ship(4, 3)", sea.ship(4, 3), 0);
            is.due("man(5, 0)", sea.man(MEN, 0), 0);
            is.due("man(5, 1)", sea.man(MEN, 1), 3);
            is.due("man(5, 3)", sea.man(MEN, 3), 0);
            is.due("sailed(5)", sea.sailed(MEN), 1 + 2);
            is.due("sailed(0)", sea.sailed(0), 2 + 32);
        });
        edges.terms(25, "THE IMAGE: all that there is, but SHELVES (and THE IMAGE)", "it is not changed by what comes behind it", is -> {
            noTrace(is, (of, sea) -> {
                sea.image();
                sea.meet(0, 1);
                of.due("restore()", sea.restore(), 0);
                sea.meet(1, 2);
                sea.commands(6, 1);
                of.due("restore(), again", sea.restore(), 0);
            });
        });
    }
}
