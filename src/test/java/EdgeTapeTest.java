import java.util.Arrays;

/** Promises 1 to 5 at their edges: a new object, the tape, the wall, its fault and the fault's place. */
public final class EdgeTapeTest {
    private static final Edge E = new Edge();
    private static final String ALL = "wall wide 3 high 2 law 0 seen;bill a plain wide 2 high 1 text ab;rival r sheets 9";
    /** A call of each sort that may be refused, with arguments by which nothing is done. */
    private static final Object[][] MAY_BE_REFUSED = {{"bill", -1, 0}, {"hanging"}, {"hung", -1, 0}, {"shows", -1, 0},
        {"letter", -1, 0}, {"under", -1}, {"over", -1}, {"beneath", -1, 0, 0}, {"on", -1, 0, 0}, {"may", -1, 0, 0},
        {"places", -1}, {"place", -1, 0}, {"full"}, {"table", -1, 0, true}, {"paste", -1, 0, 0, 0}, {"peel"}, {"tear", -1},
        {"scrape"}, {"days", 1}, {"rival", -1, 0}, {"undo"}, {"reads", -1}, {"readAt", -1}, {"readBy", -1, 0},
        {"makes", -1}, {"stays", -1, 0, 0}, {"best", -1}, {"far", 1}, {"shortest", 1}, {"wins", 1}, {"close", -1, 1},
        {"life", 0, true}, {"orders"}, {"ahead", -1, 0}, {"mark"}, {"back", -1}, {"wall", -1}};
    private static final String[] NEVER_REFUSED = {"feed", "fault", "where", "led", "size", "trouble"};

    public static void main(String[] args) {
        noWall();
        twentyBytes();
        highestFirst();
        moreThanNineHundred();
        firstBytes();
        emptyThen();
        wallFromNowOn();
        nothingOfOtherWalls();
        howManyBills();
        tapeStays();
        wallStays();
        latestFault();
        itsPlace();
        E.end(1, 5);
    }

    private static Driven told() {
        return Driven.of(ALL + ";founder a at 0,0");
    }

    private static Driven withTape() {
        return told().feed(ALL);
    }

    private static void noWall() {
        E.promise(1, "No WALL.");
        Driven x = new Driven();
        E.is(x, 0, "trouble");
        E.is(x, 0, "fault");
        E.is(x, CoverTwo.NONE, "where");
        E.is(x, Driven.THROWN, "led", 0);
        for (int what = 0; what <= 10; what++) {
            E.is(x, 0, "size", what);
        }
        for (Object[] call : MAY_BE_REFUSED) {
            String name = (String) call[0];
            if (!name.equals("wall")) {
                E.refused(Driven::new, name.matches("peel|undo") ? 6 : 1, name, naughts(call));
            }
        }
    }

    /** As many arguments as a call has, each of them 0. */
    private static Object[] naughts(Object[] call) {
        Object[] arguments = Arrays.copyOfRange(call, 1, call.length);
        for (int i = 0; i < arguments.length; i++) {
            arguments[i] = arguments[i] instanceof Boolean ? arguments[i] : (Object) 0;
        }
        return arguments;
    }

    private static void twentyBytes() {
        E.promise(2, "Twenty bytes come behind THE TAPE");
        Driven x = new Driven();
        E.is(x, 0, "size", 10);
        E.is(x, 20, "feed", 0, 0, 0, 0, 0);
        E.is(x, 20, "size", 10);
        E.is(x, 40, "feed", -1, -1, -1, -1, -1);
        E.is(x, 60, "feed", Edge.MOST, Edge.LEAST, 0, 1, 2);
        E.is(x, 60, "size", 10);
    }

    /** A byte that is no token's, at each place of the first twenty and of the next ones. */
    private static void highestFirst() {
        E.promise(2, "of each number the highest first");
        for (int place = 0; place < 40; place++) {
            int[] fours = new int[10];
            Arrays.fill(fours, 0x20202020);
            fours[place / 4] |= 255 << (24 - 8 * (place % 4));
            Driven x = new Driven();
            x.act("feed", fours[0], fours[1], fours[2], fours[3], fours[4]);
            x.act("feed", fours[5], fours[6], fours[7], fours[8], fours[9]);
            E.faulty(x, 40, 1, place);
        }
    }

    private static void moreThanNineHundred() {
        E.promise(2, "NONE, and none comes, if there would be more than 900.");
        Driven x = new Driven();
        x.feed(ALL);
        for (int bytes = x.ask("size", 10) + 20; bytes <= 900; bytes += 20) {
            E.is(x, bytes, "feed", 0x20202020, 0x20202020, 0x20202020, 0x20202020, 0x20202020);
        }
        x.ask("bill", -1, 0);
        for (int i = 0; i < 3; i++) {
            E.is(x, CoverTwo.NONE, "feed", 0x3b3b3b3b, 0, -1, Edge.MOST, Edge.LEAST);
            E.is(x, 900, "size", 10);
            E.is(x, 1, "trouble");
        }
        E.no(x, 2, "wall", 901);
        E.due("none came", x.ask("wall", 900), 1);
        E.is(x, 20, "feed", 0, 0, 0, 0, 0);
    }

    private static void firstBytes() {
        E.promise(3, "The first n bytes of THE TAPE");
        String text = ALL + ";word abc";
        int[] lengths = {2, 3, 3};
        for (int more = -1; more <= 1; more++) {
            Driven x = new Driven().feed(text);
            E.is(x, 1, "wall", text.length() + more);
            E.is(x, 1, "size", 6);
            E.no(x, 6, "readBy", 0, lengths[more + 1] - 1);
            E.no(x, 1, "readBy", 0, lengths[more + 1]);
        }
        E.faulty(new Driven().feed(ALL), 0, 1, 0);
        E.faulty(new Driven().feed(ALL), 1, 1, 0);
    }

    private static void emptyThen() {
        E.promise(3, "(it is empty then)");
        Driven x = new Driven().feed(ALL + " ! ");
        E.is(x, 1, "wall", ALL.length());
        E.is(x, 0, "size", 10);
        E.no(x, 2, "wall", 1);
        E.is(x, 20, "feed", 0, 0, 0, 0, 0);
        E.faulty(x, 20, 1, 0);
        E.is(x, 0, "size", 10);
        E.no(x, 2, "wall", 1);
        E.faulty(x.feed(ALL), 0, 1, 0);
        E.is(x, 0, "size", 10);
        E.no(x, 2, "wall", 1);
    }

    private static void wallFromNowOn() {
        E.promise(3, "are the WALL from now on (nothing to undo, no MARKS, nobody is paid)");
        Driven x = told().act("paste", 0, 0, 1, 0).act("days", 30).act("mark").act("mark").act("mark").act("scrape");
        E.due("told anew", x.tell(ALL + ";paste a at 0,0 by r"), 1);
        E.is(x, 0, "size", 8);
        E.is(x, 0, "size", 9);
        E.no(x, 6, "undo");
        E.no(x, 1, "back", 0);
        E.is(x, 0, "rival", 0, 2);
        E.is(x, 8, "rival", 0, 0);
        E.is(x, 0, "size", 7);
        E.is(x, 1, "hanging");
        E.is(x, 0, "hung", 0, 3);
        E.is(x, 0, "mark");
        x.act("days", 30);
        E.due("told anew, less", x.tell("wall wide 2 high 1 law 4 hang;bill b last wide 1 high 1 text c"), 1);
        E.stays(() -> Driven.of("wall wide 2 high 1 law 4 hang;bill b last wide 1 high 1 text c"), x, "wall");
        E.due("told anew, as first", x.tell(ALL + ";founder a at 0,0"), 1);
        E.is(x, 0, "rival", 0, 2);
    }

    /** Nothing of an earlier wall is left: no last one, no letters, no bills or words that were more. */
    private static void nothingOfOtherWalls() {
        E.promise(3, "are the WALL from now on");
        String more = "wall wide 8 high 4 law 0 seen;bill z last wide 8 high 4 text ab;bill w wording wide 1 high 1 text c"
            + ";bill d plain wide 1 high 1 text d;bill e plain wide 1 high 1 text e;rival p sheets 1;rival q sheets 1"
            + ";word c;word ab;founder z at 0,0";
        String less = "wall wide 3 high 1 law 0 seen;bill w wording wide 1 high 1 text c;rival r sheets 2;word ab";
        String worded = less + ";bill d plain wide 1 high 1 text d;word dc;founder d at 0,0";
        Driven x = new Driven();
        for (int i = 0; i < 3; i++) {
            E.due("more", x.tell(more), 4);
            E.is(x, 1, "full");
            E.is(x, 16, "reads", 1);
            E.due("less", x.tell(less), 1);
            E.is(x, 0, "places", 0);
            E.is(x, 0, "makes", 0);
            E.is(x, 0, "life", 0, true);
            E.is(x, 0, "reads", 0);
            E.is(x, 1, "full");
            E.no(x, 1, "reads", 1);
            E.no(x, 1, "bill", 1, 0);
            E.no(x, 1, "rival", 1, 0);
            E.due("worded", x.tell(worded), 2);
            E.is(x, 1, "places", 0);
            E.is(x, 2, "places", 1);
        }
    }

    private static void howManyBills() {
        E.promise(3, "how many bills are told");
        StringBuilder text = new StringBuilder("wall wide 3 high 2 law 0 seen");
        for (int bills = 1; bills <= 4; bills++) {
            text.append(";bill ").append("abcd".charAt(bills - 1)).append(" plain wide 1 high 1 text a");
            Driven x = new Driven().feed(text.toString());
            E.is(x, bills, "wall", text.length());
        }
    }

    private static void tapeStays() {
        E.promise(3, "NONE: 2 (THE TAPE stays)");
        for (int n : new int[] {-1, -20, 101, 102, 900, 901, Edge.MOST, Edge.LEAST}) {
            Driven x = withTape();
            E.due("bytes", x.ask("size", 10), 100);
            E.no(x, 2, "wall", n);
            E.is(x, 100, "size", 10);
            E.is(x, 1, "wall", ALL.length());
            E.refused(EdgeTapeTest::withTape, 2, "wall", n);
        }
        E.is(withTape(), 1, "wall", 100);
        E.is(withTape(), 1, "wall", 99);
        E.refused(Driven::new, 2, "wall", 1);
        E.refused(Driven::new, 2, "wall", -1);
    }

    private static void wallStays() {
        E.promise(3, "4 (the WALL stays)");
        Driven x = withTape();
        E.faulty(x, ALL.length() - 1, 1, ALL.length() - 1);
        E.is(x, 0, "size", 10);
        E.stays(EdgeTapeTest::told, x, "wall");
        Driven none = new Driven();
        E.faulty(none, 0, 1, 0);
        E.stays(Driven::new, none, "wall(0)");
        Driven late = told().act("paste", 0, 0, 1, 0);
        E.due("a fault at the very end", late.tell(ALL + ";paste a at 0,0 by r;paste a at 0,0 by r"), CoverTwo.NONE);
        E.stays(() -> told().act("paste", 0, 0, 1, 0), late, "a fault at the very end");
    }

    private static void latestFault() {
        E.promise(4, "The FAULT of the latest wall() not refused by 2; 0 without one.");
        Driven x = new Driven();
        E.is(x, 0, "fault");
        E.no(x, 2, "wall", 1);
        E.is(x, 0, "fault");
        String[] faulty = {"!", "wall wide 3 high 2 law 0 seen;founder b", "word a;word a", "wall wide 1",
            "word a;word b;word c;word d;word e;word f;word g", "paste", ALL + ";paste a at 0,0 by r;paste a at 0,0 by r"};
        for (int number = 1; number <= 7; number++) {
            E.due("a fault", x.tell(faulty[number - 1]), CoverTwo.NONE);
            E.is(x, number, "fault");
            E.no(x, 2, "wall", 1);
            E.is(x, number, "fault");
            E.no(x, 2, "wall", -1);
            E.is(x, number, "fault");
        }
        E.due("without one", x.tell(ALL), 1);
        E.is(x, 0, "fault");
        E.no(x, 2, "wall", 1);
        E.is(x, 0, "fault");
    }

    private static Driven faulty() {
        Driven x = told();
        x.tell("word a;word 7");
        return x;
    }

    private static void itsPlace() {
        E.promise(5, "Its place, if the latest call that may be refused was by 4; NONE else.");
        E.is(new Driven(), CoverTwo.NONE, "where");
        E.is(told(), CoverTwo.NONE, "where");
        Driven x = faulty();
        E.is(x, 12, "where");
        E.is(x, 12, "where");
        Object[][] others = {{0, 0, 0, 0, 0}, {}, {}, {0}, {99}, {}};
        for (int i = 0; i < NEVER_REFUSED.length; i++) {
            x.ask(NEVER_REFUSED[i], others[i]);
            E.is(x, 12, "where");
            E.is(x, 4, "trouble");
        }
        for (Object[] call : MAY_BE_REFUSED) {
            Driven y = faulty();
            y.askRow(call);
            E.due("where behind " + call[0], y.ask("where"), CoverTwo.NONE);
            E.due("another trouble behind " + call[0], y.ask("trouble") == 4 ? 1 : 0, 0);
            E.due("fault behind " + call[0], y.ask("fault"), 1);
        }
        E.due("each call of the face is told here", MAY_BE_REFUSED.length + NEVER_REFUSED.length, Driven.CALLS.size());
        Driven again = faulty();
        E.due("a fault anew", again.tell("wall wide 1"), CoverTwo.NONE);
        E.is(again, 10, "where");
        E.due("a good one", again.tell(ALL), 1);
        E.is(again, CoverTwo.NONE, "where");
    }
}
