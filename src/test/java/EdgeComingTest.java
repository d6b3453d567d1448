/** Promises 31 to 37 at their edges, with what Terms III says of what comes: stays, best, rows, life. */
public final class EdgeComingTest {
    private static final Edge E = new Edge();
    private static final int[] NO_BILL = {-1, 4, 5, Edge.MOST, Edge.LEAST};
    private static final int[] NO_ROW = {0, 5, -1, 6, Edge.MOST, Edge.LEAST};
    private static final String RIVALS = ";rival p sheets 20;rival q sheets 3;rival r sheets 0";

    public static void main(String[] args) {
        staysAtLeast();
        staysAsPasted();
        staysRefused();
        bestIsFirst();
        bestRefused();
        farByCells();
        farToThirty();
        shortestToThirty();
        winsToThirty();
        farRefused();
        shortestByCells();
        shortestRefused();
        winsByCells();
        winsRefused();
        twentyThousandRows();
        oneRowMore();
        closeByCells();
        closeShowsAll();
        closeBySheets();
        closeRefused();
        closeRows();
        lifeByNumbers();
        lifeByRounds();
        lifeToThirty();
        asItIsNow();
        lifeRefused();
        E.end(31, 37);
    }

    /** A wall on which just so many more can be pasted, of one cell each. */
    private static Driven cells(int free) {
        StringBuilder text = new StringBuilder("wall wide " + Math.max(free, 2) + " high 1 law 0 hang"
            + ";bill d plain wide 1 high 1 text d" + RIVALS);
        for (int x = 0; x < 2 - free; x++) {
            text.append(";founder d at ").append(x).append(",0");
        }
        return Driven.of(text.toString());
    }

    /** Bills 0 a of two cells, 1 t torn, 2 z a last one of three cells, 3 d of one. */
    private static Driven four() {
        return Driven.of("wall wide 4 high 1 law 0 seen;bill a plain wide 2 high 1 text a;bill t torn wide 1 high 1 text t"
            + ";bill z last wide 3 high 1 text z;bill d plain wide 1 high 1 text d" + RIVALS).act("days", 1).act("mark");
    }

    private static void staysAtLeast() {
        E.term("how many CELLS of it are SEEN behind it and one more bill, whatever that is, wherever that MAY go, at least");
        E.is(four(), 1, "stays", 0, 0, 0);
        E.is(four(), 0, "stays", 3, 0, 0);
        String covered = "wall wide 4 high 1 law 1 seen;bill a plain wide 4 high 1 text a"
            + ";bill b plain wide 3 high 1 text b;founder a at 0,0";
        E.is(Driven.of(covered), 0, "stays", 0, 0, 0);
        E.is(Driven.of(covered), 0, "stays", 1, 0, 0);
        String torn = "wall wide 4 high 1 law 0 hang;bill a plain wide 3 high 1 text a;bill t torn wide 2 high 1 text t";
        E.is(Driven.of(torn), 1, "stays", 0, 0, 0);
        E.is(Driven.of(torn.replace("torn wide 2", "torn wide 1")), 2, "stays", 0, 0, 0);
        E.is(Driven.of(torn.replace("torn wide 2", "torn wide 4")), 0, "stays", 0, 0, 0);
        E.is(Driven.of(torn.replace("torn", "plain")), 3, "stays", 0, 0, 0);
        E.is(Driven.of(torn.replace("t torn", "t wording")), 3, "stays", 0, 0, 0);
    }

    private static void staysAsPasted() {
        E.term("(as it is pasted, if none MAY)");
        E.is(four(), 3, "stays", 2, 0, 0);
        E.is(Driven.stack(28), 0, "stays", 0, 0, 0);
        E.is(Driven.stack(29), 2, "stays", 0, 0, 0);
        E.is(cells(1), 1, "stays", 0, 1, 0);
        Driven all = Driven.of("wall wide 8 high 4 law 0 hang;bill a plain wide 8 high 4 text a");
        E.is(all, 32, "stays", 0, 0, 0);
    }

    private static void staysRefused() {
        E.promise(31, "NONE: 1 (bill); 2; 5 (it MAY not go there).");
        E.refusedFor(EdgeComingTest::four, 1, NO_BILL, 0, "stays", 0, 0, 0);
        E.refusedFor(EdgeComingTest::four, 1, NO_BILL, 0, "stays", 0, 9, 9);
        E.refusedFor(EdgeComingTest::four, 2, new int[] {-1, 3, 4, Edge.MOST, Edge.LEAST}, 1, "stays", 0, 0, 0);
        E.refusedFor(EdgeComingTest::four, 2, new int[] {-1, 1, 2, Edge.MOST, Edge.LEAST}, 2, "stays", 0, 0, 0);
        E.asked(EdgeComingTest::four, 1, "stays", 0, 2, 0);
        E.refused(EdgeComingTest::four, 5, "stays", 1, 0, 0);
        E.refused(EdgeComingTest::four, 5, "stays", 1, 3, 0);
        E.refused(EdgeComingTest::four, 2, "stays", 1, 4, 0);
        E.refused(() -> four().act("paste", 3, 0, 0, 0), 5, "stays", 0, 0, 0);
        E.refused(() -> Driven.stack(30), 5, "stays", 0, 0, 0);
        E.refused(Driven::new, 1, "stays", 0, 0, 0);
    }

    private static void bestIsFirst() {
        E.promise(32, "BEST: the number of its upper left CELL.");
        E.term("BEST: the place of most, the first such.");
        E.asked(EdgeComingTest::four, 0, "best", 0);
        E.asked(EdgeComingTest::four, 0, "best", 2);
        String text = "wall wide 5 high 1 law 0 hang;bill d plain wide 1 high 1 text a;bill t torn wide 2 high 1 text b";
        E.asked(() -> Driven.of(text + ";founder d at 2,0;founder d at 4,0"), 3, "best", 0);
        E.asked(() -> Driven.of(text + ";founder d at 0,0;founder d at 2,0"), 1, "best", 0);
        E.asked(() -> Driven.of(text + ";founder d at 3,0;founder d at 1,0"), 0, "best", 0);
        E.asked(() -> Driven.of(text + ";founder d at 0,0;founder d at 1,0;founder d at 2,0"
            + ";founder d at 3,0"), 4, "best", 0);
        E.asked(() -> Driven.of("wall wide 8 high 4 law 1 hang;bill d plain wide 1 high 1 text d"
            + ";founder d at 7,3"), 31, "best", 0);
        E.asked(() -> Driven.stack(28), 0, "best", 0);
        E.asked(() -> Driven.stack(29), 0, "best", 0);
    }

    private static void bestRefused() {
        E.promise(32, "NONE: 1; 6 (it MAY go nowhere).");
        E.refusedFor(EdgeComingTest::four, 1, NO_BILL, 0, "best", 0);
        E.refused(EdgeComingTest::four, 6, "best", 1);
        E.refused(() -> Driven.stack(30), 6, "best", 0);
        E.refused(() -> cells(0), 6, "best", 0);
        E.asked(() -> cells(1), 1, "best", 0);
        E.refused(Driven::new, 1, "best", 0);
    }

    private static void farByCells() {
        E.promise(33, "FAR.");
        for (int free = 0; free <= 8; free++) {
            int now = free;
            for (int d = 1; d <= 4; d++) {
                E.asked(() -> cells(now), Math.min(free, d), "far", d);
            }
        }
        Driven last = Driven.of("wall wide 4 high 1 law 0 hang;bill z last wide 1 high 1 text z");
        E.is(last, 1, "far", 4);
        Driven both = Driven.of("wall wide 2 high 1 law 0 hang;bill z last wide 2 high 1 text z"
            + ";bill d plain wide 1 high 1 text d");
        E.is(both, 2, "far", 4);
        E.is(both, 1, "far", 1);
    }

    private static void farToThirty() {
        E.term("of these FAR is the length of the longest");
        for (int hanging = 25; hanging <= 30; hanging++) {
            Driven x = Driven.stack(hanging);
            for (int d = 1; d <= 4; d++) {
                E.is(x, Math.min(d, 30 - hanging), "far", d);
            }
        }
    }

    private static void shortestToThirty() {
        E.term("SHORT of the shortest behind which it is FULL.");
        for (int hanging = 25; hanging <= 30; hanging++) {
            Driven x = Driven.stack(hanging);
            for (int d = 1; d <= 4; d++) {
                E.is(x, 30 - hanging <= d ? 30 - hanging : -2, "shortest", d);
            }
        }
        Driven some = Driven.of("wall wide 5 high 1 law 0 hang;bill a plain wide 4 high 1 text a"
            + ";bill e plain wide 2 high 1 text e");
        E.is(some, 1, "shortest", 1);
        E.is(some, 2, "far", 4);
        E.is(Driven.of("wall wide 2 high 1 law 1 hang;bill d plain wide 1 high 1 text d"), 0, "shortest", 1);
    }

    private static void winsToThirty() {
        E.term("WINS: by turns, all bills for both, who can't paste has lost: whether who is next can bring about,"
            + " with d pastings at most, that the other one can't.");
        for (int hanging = 25; hanging <= 30; hanging++) {
            Driven x = Driven.stack(hanging);
            for (int d = 1; d <= 4; d++) {
                E.is(x, 30 - hanging <= d ? (30 - hanging) % 2 : 0, "wins", d);
            }
        }
        Driven without = Driven.of("wall wide 3 high 1 law 0 hang;bill d plain wide 1 high 1 text d;rival r sheets 0");
        E.is(without, 0, "wins", 2);
        E.is(without, 1, "wins", 3);
    }

    private static void rowsRefused(String call) {
        E.refusedFor(() -> cells(3), 2, NO_ROW, 0, call, 1);
        E.refusedFor(() -> cells(0), 2, NO_ROW, 0, call, 1);
        for (int d : new int[] {-1, 0, 1, 4, 5}) {
            E.refused(Driven::new, 1, call, d);
        }
    }

    private static void farRefused() {
        E.promise(33, "NONE: 1 (no WALL); 2 (d); 3.");
        rowsRefused("far");
    }

    private static void shortestByCells() {
        E.promise(34, "SHORT (0 if it is FULL); -2 if none of up to d does.");
        for (int free = 0; free <= 8; free++) {
            int now = free;
            for (int d = 1; d <= 4; d++) {
                E.asked(() -> cells(now), free <= d ? free : -2, "shortest", d);
            }
        }
        Driven two = Driven.of("wall wide 4 high 1 law 0 hang;bill a plain wide 2 high 1 text a"
            + ";bill d plain wide 1 high 1 text d");
        int[] due = {-2, 2, 2, 2};
        for (int d = 1; d <= 4; d++) {
            E.is(two, due[d - 1], "shortest", d);
        }
        Driven last = Driven.of("wall wide 8 high 1 law 0 hang;bill d plain wide 1 high 1 text d"
            + ";bill z last wide 1 high 1 text z");
        E.is(last, 1, "shortest", 1);
        E.is(last, 1, "shortest", 4);
    }

    private static void shortestRefused() {
        E.promise(34, "NONE: likewise.");
        rowsRefused("shortest");
    }

    private static void winsByCells() {
        E.promise(35, "WINS: 1, 0.");
        for (int free = 0; free <= 8; free++) {
            int now = free;
            for (int d = 1; d <= 4; d++) {
                E.asked(() -> cells(now), free <= d ? free % 2 : 0, "wins", d);
            }
        }
        Driven choice = Driven.of("wall wide 2 high 1 law 0 hang;bill d plain wide 1 high 1 text d"
            + ";bill a plain wide 2 high 1 text a");
        for (int d = 1; d <= 4; d++) {
            E.is(choice, 1, "wins", d);
        }
        Driven other = Driven.of("wall wide 3 high 1 law 0 hang;bill a plain wide 2 high 1 text a"
            + ";bill d plain wide 1 high 1 text d");
        int[] due = {0, 0, 1, 1};
        for (int d = 1; d <= 4; d++) {
            E.is(other, due[d - 1], "wins", d);
        }
    }

    private static void winsRefused() {
        E.promise(35, "NONE: likewise.");
        rowsRefused("wins");
    }

    /** Walls of just as many rows as may be, of up to three and of up to four bills, one step to each side. */
    private static final FreeCells[][] EDGES = {
        {new FreeCells(7, 3, new int[] {3, 1, 0}, new int[] {3, 1, 0}, new int[] {7, 2, 1}, new int[] {5, 1, 0}),
            new FreeCells(6, 4, new int[] {6, 3, 1}, new int[] {3, 4, 0}, new int[] {1, 1, 0}, new int[] {3, 3, 0}),
            new FreeCells(7, 3, new int[] {3, 1, 0}, new int[] {1, 3, 0}, new int[] {1, 2, 0}, new int[] {5, 3, 0})},
        {new FreeCells(7, 4, new int[] {3, 4, 0}, new int[] {1, 3, 0}, new int[] {6, 4, 0}),
            new FreeCells(7, 4, new int[] {2, 3, 0}, new int[] {1, 4, 0}, new int[] {3, 2, 0}),
            new FreeCells(7, 3, new int[] {1, 2, 0}, new int[] {6, 2, 1}, new int[] {3, 3, 0})}};

    private static int orNothing(int length, int d) {
        return length > d ? -2 : length;
    }

    private static void twentyThousandRows() {
        E.term("More than 20,000 ROWS of 1 up to d: refused (3).");
        for (int d = 3; d <= 4; d++) {
            for (int step = 0; step < 2; step++) {
                FreeCells wall = EDGES[d - 3][step];
                E.due("rows by hand", wall.rows(0, d), 19999 + step);
                Driven x = Driven.of(wall.text() + RIVALS);
                E.is(x, d, "far", d);
                E.is(x, orNothing(wall.shortest(0, d), d), "shortest", d);
                E.is(x, wall.wins(0, d) ? 1 : 0, "wins", d);
                E.is(x, orNothing(wall.close(0, d), d), "close", 0, d);
            }
        }
    }

    private static void oneRowMore() {
        E.term("More than 20,000 ROWS of 1 up to d: refused (3).");
        for (int d = 3; d <= 4; d++) {
            FreeCells wall = EDGES[d - 3][2];
            E.due("rows by hand", wall.rows(0, d), 20001);
            for (String call : new String[] {"far", "shortest", "wins"}) {
                E.refused(() -> Driven.of(wall.text() + RIVALS), 3, call, d);
                E.refused(() -> Driven.of(wall.text() + RIVALS), 2, call, 5);
            }
            E.refused(() -> Driven.of(wall.text() + RIVALS), 3, "close", 0, d);
            Driven x = Driven.of(wall.text() + RIVALS);
            E.is(x, d - 1, "far", d - 1);
            E.is(x, orNothing(wall.shortest(0, d - 1), d - 1), "shortest", d - 1);
            E.is(x, wall.wins(0, d - 1) ? 1 : 0, "wins", d - 1);
        }
        Driven largest = Driven.of("wall wide 8 high 4 law 1 seen;bill a plain wide 1 high 1 text a"
            + ";bill b plain wide 1 high 1 text b"
            + ";bill c plain wide 1 high 1 text c;bill f plain wide 8 high 4 text f;founder f at 0,0" + RIVALS);
        E.is(largest, 2, "far", 2);
        E.no(largest, 3, "far", 3);
        E.no(largest, 3, "shortest", 4);
        E.no(largest, 3, "wins", 3);
        E.is(largest, 1, "close", 0, 2);
        E.no(largest, 3, "close", 0, 3);
    }

    private static void closeByCells() {
        E.promise(36, "CLOSE; -2 if none of up to d does.");
        for (int free = 2; free <= 6; free++) {
            int now = free;
            for (int d = 1; d <= 4; d++) {
                E.asked(() -> cells(now), free <= d ? free : -2, "close", 0, d);
            }
        }
        Driven x = cells(5);
        for (int left = 4; left >= 0; left--) {
            x.act("paste", 0, left, 0, 0);
            for (int d = 1; d <= 4; d++) {
                E.is(x, left <= d ? left : -2, "close", 0, d);
                E.is(x, -2, "close", 1, d);
            }
        }
        E.asked(() -> cells(1), -2, "close", 0, 4);
        E.asked(() -> Driven.stack(1), 1, "close", 0, 1);
        E.asked(() -> Driven.stack(2), 0, "close", 1, 1);
        E.asked(() -> Driven.stack(29), 1, "close", 1, 4);
        E.asked(() -> Driven.stack(30), -2, "close", 0, 4);
        E.asked(() -> Driven.stack(30), 0, "close", 1, 4);
    }

    private static void closeShowsAll() {
        E.term("CLOSE of a rival: the length of the shortest ROW of bills (0 to d) of that rival's");
        String text = "wall wide 2 high 2 law 1 seen;bill a plain wide 2 high 2 text a;bill e plain wide 2 high 1 text e"
            + ";bill d plain wide 1 high 1 text d" + RIVALS + ";founder a at 0,0";
        Driven x = Driven.of(text);
        E.is(x, 1, "close", 0, 1);
        x.act("paste", 1, 0, 0, 0);
        E.is(x, 1, "close", 0, 1);
        x.act("paste", 2, 0, 1, 0);
        E.is(x, 1, "close", 0, 1);
        E.is(x, -2, "close", 1, 2);
        E.is(x, 3, "close", 1, 3);
        x.act("paste", 2, 1, 1, 0);
        E.is(x, 0, "close", 0, 1);
        E.is(x, 3, "close", 1, 3);
        E.is(x, -2, "close", 2, 4);
        x.act("paste", 2, 1, 1, 1);
        E.is(x, 1, "close", 0, 1);
    }

    private static void closeBySheets() {
        E.term("as many as it has SHEETS at most");
        for (int sheets = 0; sheets <= 5; sheets++) {
            String text = "wall wide 3 high 1 law 0 hang;bill d plain wide 1 high 1 text d;rival r sheets " + sheets;
            for (int d = 1; d <= 4; d++) {
                int most = d;
                E.asked(() -> Driven.of(text), Math.min(sheets, d) >= 3 ? 3 : -2, "close", 0, most);
            }
        }
        Driven none = Driven.of("wall wide 2 high 1 law 0 hang;bill d plain wide 1 high 1 text d;rival r sheets 2"
            + ";paste d at 0,0 by r");
        E.is(none, 1, "close", 0, 1);
        none.act("paste", 0, 1, 0, 0);
        E.is(none, 0, "rival", 0, 0);
        E.is(none, 0, "close", 0, 1);
        none.act("peel");
        E.is(none, -2, "close", 0, 4);
    }

    private static void closeRefused() {
        E.promise(36, "NONE: 1 (rival); 2 (d 1 .. 4)");
        for (int d : new int[] {0, 1, 4, 5}) {
            E.refusedFor(() -> cells(3), 1, new int[] {-1, -2, 3, 4, Edge.MOST, Edge.LEAST}, 0, "close", 0, d);
            E.refused(Driven::new, 1, "close", 0, d);
        }
        for (int r = 0; r < 3; r++) {
            E.refusedFor(() -> cells(3), 2, NO_ROW, 1, "close", r, 1);
        }
    }

    private static void closeRows() {
        E.promise(36, "3 (more than 20,000 ROWS of 1 up to d, and to its SHEETS).");
        FreeCells wall = EDGES[1][2];
        for (int sheets = 2; sheets <= 5; sheets++) {
            String text = wall.text() + ";rival r sheets " + sheets;
            for (int d = 2; d <= 4; d++) {
                int most = Math.min(sheets, d);
                if (most == 4) {
                    E.refused(() -> Driven.of(text), 3, "close", 0, d);
                } else {
                    E.is(Driven.of(text), orNothing(wall.close(0, most), most), "close", 0, d);
                }
            }
        }
        Driven x = Driven.of(wall.text() + ";rival r sheets 4;rival q sheets 0");
        E.no(x, 3, "close", 0, 4);
        E.is(x, -2, "close", 1, 4);
    }

    /** Five on one cell, the other one free. */
    private static Driven five() {
        return Driven.of("wall wide 2 high 1 law 4 hang;bill d plain wide 1 high 1 text d" + RIVALS
            + ";founder d at 0,0".repeat(4)).act("paste", 0, 0, 0, 0);
    }

    private static void lifeByNumbers() {
        E.promise(37, "LIFE.");
        int[] hang = {1, 0, 0, 0, 0, 1};
        int[] seen = {1, 25, 0, 0, 0, 0};
        for (int n = 0; n <= 5; n++) {
            E.asked(EdgeComingTest::five, hang[n], "life", n, true);
            E.asked(EdgeComingTest::five, seen[n], "life", n, false);
        }
        for (int free = 0; free <= 8; free++) {
            int now = free;
            E.asked(() -> cells(now), free, "life", 0, true);
        }
        E.asked(() -> Driven.of("wall wide 3 high 1 law 4 hang;bill t torn wide 1 high 1 text t"), 3, "life", 0, false);
        E.asked(() -> Driven.of("wall wide 3 high 1 law 4 hang;bill z last wide 1 high 1 text t"), 1, "life", 0, false);
    }

    private static void lifeByRounds() {
        E.term("rounds of all bills told, each pasted at its first place, if there is any (as for table()),"
            + " till none of a round is");
        String text = "wall wide 3 high 1 law 4 hang;bill w wording wide 2 high 1 text b"
            + ";bill d plain wide 1 high 1 text a;word abb";
        E.asked(() -> Driven.of(text), 2, "life", 0, true);
        E.asked(() -> Driven.of(text.replace(";word abb", "")), 3, "life", 0, true);
        E.asked(() -> Driven.of(text.replace("bill d plain", "bill d last")), 1, "life", 0, true);
        String wide = "wall wide 4 high 1 law 4 hang;bill a plain wide 2 high 1 text a;bill d plain wide 1 high 1 text d";
        E.asked(() -> Driven.of(wide), 3, "life", 0, true);
        String lastAhead = "wall wide 4 high 1 law 4 hang;bill d plain wide 1 high 1 text d"
            + ";bill z last wide 1 high 1 text z"
            + ";bill e plain wide 1 high 1 text e";
        E.asked(() -> Driven.of(lastAhead), 2, "life", 0, true);
        E.asked(() -> Driven.of(lastAhead + ";founder z at 0,0"), 0, "life", 0, true);
        E.asked(EdgeComingTest::four, 3, "life", 0, true);
        E.asked(EdgeComingTest::four, 0, "life", 5, true);
    }

    private static void lifeToThirty() {
        E.term("how many are pasted so.");
        for (int hanging : new int[] {1, 2, 28, 29, 30}) {
            E.asked(() -> Driven.stack(hanging), 30 - hanging, "life", 1, false);
        }
        E.asked(() -> Driven.of("wall wide 8 high 4 law 4 hang;bill d plain wide 1 high 1 text d"), 30, "life", 0, true);
        E.asked(() -> Driven.of("wall wide 8 high 4 law 4 hang;bill d plain wide 1 high 1 text d"
            + ";bill e plain wide 1 high 1 text e"
            + ";founder d at 3,3"), 29, "life", 0, true);
    }

    /** Questions by turns with acts: what may go is what may go now, by the letters that show now. */
    private static void asItIsNow() {
        E.term("ROWS of up to d bills (1 .. 4): each MAY go, one behind the other");
        String text = "wall wide 2 high 1 law 0 hang;bill w wording wide 1 high 1 text a;bill e torn wide 1 high 1 text b"
            + ";bill c torn wide 1 high 1 text c;word ab;founder c at 1,0" + RIVALS;
        String[] calls = {"far", "shortest", "wins"};
        int[][] due = {{1, 1, 1}, {1, -2, 1}, {1, 0, 1}};
        for (int i = 0; i < calls.length; i++) {
            Driven x = Driven.of(text);
            E.is(x, due[i][0], calls[i], 1);
            x.act("paste", 1, 1, 0, 0);
            E.is(x, due[i][1], calls[i], 1);
            x.act("paste", 0, 0, 0, 0);
            E.is(x, due[i][2], calls[i], 1);
            x.act("undo");
            E.is(x, due[i][1], calls[i], 1);
            x.act("undo");
            E.is(x, due[i][0], calls[i], 1);
        }
    }

    private static void lifeRefused() {
        E.promise(37, "NONE: 1 (no WALL); 2 (n 0 .. 5).");
        for (boolean hang : new boolean[] {true, false}) {
            E.refusedFor(EdgeComingTest::five, 2, new int[] {-1, 6, 7, Edge.MOST, Edge.LEAST}, 0, "life", 0, hang);
            for (int n : new int[] {-1, 0, 5, 6}) {
                E.refused(Driven::new, 1, "life", n, hang);
            }
        }
    }
}
