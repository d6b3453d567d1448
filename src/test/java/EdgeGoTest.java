/** Promises 14 to 19 at their edges, with what Terms II says of where a bill may go. */
public final class EdgeGoTest {
    private static final Edge E = new Edge();
    private static final int[] NO_BILL = {-1, 4, 5, Edge.MOST, Edge.LEAST};

    public static void main(String[] args) {
        liesOn();
        justSoManyThatHang();
        justSoManyThatAreSeen();
        fiveThatAreSeen();
        noLastOne();
        fewerThanThirty();
        wordingNeedsMore();
        wordingInRows();
        wordingEverywhere();
        fullWhenNoneMay();
        onWhichBill();
        onBeyond();
        mayOrNot();
        mayRefused();
        howManyPlaces();
        placesRefused();
        whichPlace();
        placeRefused();
        fullOrNot();
        fullWithoutWall();
        tableOfNumbers();
        tableAllElse();
        tableRefused();
        E.end(14, 19);
    }

    /** Bills 0 a of two cells, 1 t torn, 2 d of one cell, 3 z a last one. */
    private static Driven made(String how, int law, String founders) {
        return Driven.of("wall wide 4 high 2 law " + law + " " + how + ";bill a plain wide 2 high 1 text ab"
            + ";bill t torn wide 4 high 1 text c;bill d plain wide 1 high 1 text d;bill z last wide 1 high 2 text z"
            + ";rival p sheets 20;rival q sheets 20" + founders);
    }

    private static Driven plainWall() {
        return made("seen", 1, ";founder a at 1,0").act("paste", 2, 1, 0, 0);
    }

    private static void liesOn() {
        E.term("A bill LIES ON those that HANG of which a CELL (hang), or a CELL that SHOWS it (seen), is under it.");
        String founders = ";founder a at 0,0;founder d at 1,0;founder d at 3,0;founder d at 3,0";
        int[] hang = {2, 2, 2};
        int[] seen = {2, 1, 1};
        for (int x = 0; x <= 2; x++) {
            E.is(made("hang", 0, founders), hang[x], "on", 0, x, 0);
            E.is(made("seen", 0, founders), seen[x], "on", 0, x, 0);
            E.is(made("hang", 0, founders), 0, "on", 0, x, 1);
            E.is(made("seen", 0, founders), 0, "on", 0, x, 1);
        }
        int[] hangDots = {1, 2, 0, 2};
        int[] seenDots = {1, 1, 0, 1};
        for (int x = 0; x < 4; x++) {
            E.is(made("hang", 0, founders), hangDots[x], "on", 2, x, 0);
            E.is(made("seen", 0, founders), seenDots[x], "on", 2, x, 0);
        }
        E.is(made("hang", 0, founders), 4, "on", 1, 0, 0);
        E.is(made("seen", 0, founders), 3, "on", 1, 0, 0);
    }

    /** So many of one cell, one on the other. */
    private static String heap(int many) {
        return ";founder d at 0,0".repeat(many);
    }

    private static void justSoManyThatHang() {
        E.term("It MAY go somewhere if it lies on just so many as the law tells (torn: one more)");
        for (int law = 0; law <= 4; law++) {
            for (int many = 0; many <= 4; many++) {
                Driven x = made("hang", law, heap(many));
                E.is(x, many, "on", 0, 0, 0);
                E.is(x, many == law ? 1 : 0, "may", 0, 0, 0);
                E.is(x, many == law + 1 ? 1 : 0, "may", 1, 0, 0);
                E.is(x, many == law ? 1 : 0, "may", 2, 0, 0);
                E.is(x, many == law ? 1 : 0, "may", 3, 0, 0);
            }
        }
        Driven x = made("hang", 4, heap(4)).act("paste", 2, 0, 0, 0);
        E.is(x, 5, "on", 1, 0, 0);
        E.is(x, 1, "may", 1, 0, 0);
        E.is(x, 0, "may", 2, 0, 0);
        x.act("paste", 1, 0, 0, 0);
        E.is(x, 6, "on", 1, 0, 0);
        E.is(x, 0, "may", 1, 0, 0);
    }

    private static void justSoManyThatAreSeen() {
        E.term("It MAY go somewhere if it lies on just so many as the law tells (torn: one more)");
        for (int law = 0; law <= 4; law++) {
            StringBuilder founders = new StringBuilder();
            for (int many = 0; many <= 4; many++) {
                String bills = ";bill w plain wide 4 high 1 text w;bill t torn wide 4 high 1 text t"
                    + ";bill d plain wide 1 high 1 text d";
                Driven x = Driven.of("wall wide 5 high 1 law " + law + " seen" + bills + founders);
                E.is(x, many, "on", 0, 0, 0);
                E.is(x, many == law ? 1 : 0, "may", 0, 0, 0);
                E.is(x, many == law + 1 ? 1 : 0, "may", 1, 0, 0);
                founders.append(";founder d at ").append(many).append(",0");
            }
        }
        Driven hidden = made("seen", 1, heap(4));
        E.is(hidden, 1, "on", 0, 0, 0);
        E.is(hidden, 1, "may", 0, 0, 0);
        E.is(hidden, 0, "may", 1, 0, 0);
    }

    /** Four in the wall's ends, one in its middle on all of them, then a torn one over five. */
    private static void fiveThatAreSeen() {
        E.term("(torn: one more)");
        Driven x = Driven.of("wall wide 8 high 2 law 4 seen;bill e plain wide 3 high 1 text e"
            + ";bill m plain wide 4 high 2 text m"
            + ";bill t torn wide 8 high 2 text t;rival r sheets 9"
            + ";founder e at 0,0;founder e at 5,0;founder e at 0,1;founder e at 5,1");
        E.is(x, 4, "on", 2, 0, 0);
        E.is(x, 0, "may", 2, 0, 0);
        E.is(x, 4, "on", 1, 2, 0);
        E.is(x, 1, "may", 1, 2, 0);
        x.act("paste", 1, 2, 0, 0);
        E.is(x, 5, "on", 2, 0, 0);
        E.is(x, 1, "may", 2, 0, 0);
        E.is(x, 1, "table", 2, 5, false);
        E.is(x, 0, "table", 2, 4, false);
        x.act("paste", 2, 0, 0, 0);
        E.is(x, 1, "on", 2, 0, 0);
        E.is(x, 0, "may", 2, 0, 0);
    }

    private static void noLastOne() {
        E.term("no last one HANGS");
        Driven x = made("seen", 0, "");
        E.is(x, 1, "may", 3, 3, 0);
        x.act("paste", 2, 0, 0, 0).act("paste", 3, 3, 0, 0);
        E.is(x, 0, "may", 3, 1, 0);
        E.is(x, 0, "may", 2, 1, 0);
        E.is(x, 0, "may", 0, 1, 0);
        E.no(x, 5, "paste", 2, 1, 0, 0);
        E.is(x, 1, "full");
        x.act("tear", 0);
        E.is(x, 1, "full");
        x.act("tear", 0);
        E.is(x, 0, "full");
        E.is(x, 1, "may", 3, 1, 0);
        E.is(made("seen", 0, ";founder z at 3,0"), 1, "full");
        E.is(made("seen", 0, ";founder z at 3,0;founder d at 3,0;founder d at 3,1"), 1, "full");
        E.is(made("seen", 0, ";founder d at 3,0;founder d at 3,1"), 0, "full");
        Driven founders = made("seen", 0, ";founder z at 3,0");
        founders.act("scrape");
        E.is(founders, 1, "full");
    }

    private static void fewerThanThirty() {
        E.term("there are fewer than 30");
        for (int hanging = 28; hanging <= 30; hanging++) {
            Driven x = Driven.stack(hanging);
            E.is(x, hanging < 30 ? 1 : 0, "may", 0, 0, 0);
            E.is(x, hanging < 30 ? 1 : 0, "places", 0);
            E.is(x, hanging < 30 ? 0 : 1, "full");
            E.is(x, hanging < 30 ? 1 : 0, "table", 0, 1, false);
        }
        Driven x = Driven.stack(30);
        E.no(x, 5, "paste", 0, 0, 0, 0);
        E.is(x, 30, "hanging");
        x.act("tear", 1);
        E.is(x, 1, "may", 0, 0, 0);
        x.act("paste", 0, 0, 0, 0);
        E.no(x, 5, "paste", 0, 0, 0, 0);
    }

    /** A wall of one row, all letters told, and whether a wording bill of one letter may go to an x. */
    private static void wording(String letters, String text, String words, int x, int may) {
        Driven d = Driven.of("wall wide " + letters.length() + " high 1 law 1 seen;bill f plain wide " + letters.length()
            + " high 1 text " + letters + ";bill w wording wide 1 high 1 text " + text + words + ";founder f at 0,0");
        E.is(d, 1, "on", 1, x, 0);
        E.is(d, may, "may", 1, x, 0);
    }

    private static void wordingNeedsMore() {
        E.term("if it is wording, some word is READ more often then");
        wording("cc", "a", "", 0, 0);
        wording("cc", "a", ";word b", 0, 0);
        wording("cc", "a", ";word a", 0, 1);
        wording("ac", "a", ";word a", 0, 0);
        wording("ac", "a", ";word a", 1, 1);
        wording("ab", "b", ";word a", 0, 0);
        wording("ab", "b", ";word a;word b", 0, 1);
        wording("ab", "b", ";word b;word a", 0, 1);
        wording("abcb", "a", ";word ab", 2, 1);
        wording("abab", "a", ";word ab", 2, 0);
        wording("abab", "b", ";word ab;word bab", 2, 0);
        wording("abab", "b", ";word ab;word bab;word bb", 2, 1);
        wording("aab", "c", ";word ca", 1, 0);
        wording("aab", "c", ";word ca", 0, 1);
        wording("aab", "c", ";word ac", 1, 1);
        wording("abcdefgx", "h", ";word abcdefgh", 7, 1);
        wording("abcdefgx", "h", ";word abcdefgh", 6, 0);
    }

    /** A wall of three rows, all letters told, and whether a wording bill two high may go to its upper left cell. */
    private static void tall(String letters, String text, String words, int may) {
        Driven d = Driven.of("wall wide 2 high 3 law 1 seen;bill f plain wide 2 high 3 text " + letters
            + ";bill w wording wide 1 high 2 text " + text + words + ";founder f at 0,0");
        E.is(d, may, "may", 1, 0, 0);
    }

    private static void wordingInRows() {
        E.term("if it is wording, some word is READ more often then");
        tall("xbxbxx", "ac", ";word ab", 1);
        tall("xbxbxx", "ca", ";word ab", 1);
        tall("xbxbxx", "cc", ";word ab", 0);
        tall("xbabxx", "ac", ";word ab", 0);
        tall("abxbxx", "ca", ";word ab", 0);
        tall("abxbxx", "aa", ";word ab", 1);
        tall("ababxx", "aa", ";word ab", 0);
        tall("xbxxab", "ac", ";word ab", 1);
        tall("xbxbab", "ca", ";word ab", 1);
        Driven low = Driven.of("wall wide 2 high 2 law 1 seen;bill f plain wide 2 high 2 text xbab"
            + ";bill w wording wide 1 high 1 text a"
            + ";word ab;founder f at 0,0");
        E.is(low, 1, "may", 1, 0, 0);
        E.is(low, 0, "may", 1, 0, 1);
    }

    /** The largest wall and six words: a wording bill that may go to all cells, to the last one alone, to none. */
    private static void wordingEverywhere() {
        E.term("if it is wording, some word is READ more often then");
        String text = "wall wide 8 high 4 law 0 seen;bill w wording wide 1 high 1 text a;bill b plain wide 1 high 1 text b"
            + ";word c;word d;word e;word f;word g";
        Driven none = Driven.of(text.replace(";bill b plain wide 1 high 1 text b", "") + ";word h");
        E.is(none, 0, "places", 0);
        E.is(none, 1, "full");
        E.no(none, 6, "best", 0);
        E.is(none, 0, "far", 4);
        E.is(none, 0, "life", 0, true);
        Driven one = Driven.of(text + ";word ba;founder b at 6,3");
        E.is(one, 1, "places", 0);
        E.is(one, 31, "place", 0, 0);
        E.is(one, 31, "best", 0);
        Driven all = Driven.of(text + ";word a");
        E.is(all, 32, "places", 0);
        E.is(all, 31, "place", 0, 31);
        E.is(all, 0, "best", 0);
    }

    private static void fullWhenNoneMay() {
        E.term("FULL: none MAY go anywhere.");
        String text = "wall wide 2 high 1 law 0 hang;bill a plain wide 2 high 1 text a;bill d plain wide 1 high 1 text d";
        E.is(Driven.of(text), 0, "full");
        E.is(Driven.of(text + ";founder d at 0,0"), 0, "full");
        E.is(Driven.of(text + ";founder d at 1,0"), 0, "full");
        E.is(Driven.of(text + ";founder d at 0,0;founder d at 1,0"), 1, "full");
        E.is(Driven.of(text + ";founder a at 0,0"), 1, "full");
        E.is(Driven.of(text + ";bill t torn wide 1 high 1 text t;founder a at 0,0"), 0, "full");
        E.is(Driven.of(text.replace("law 0", "law 1")), 1, "full");
        E.is(Driven.of(text.replace("law 0", "law 1") + ";founder a at 0,0"), 0, "full");
        String corner = "wall wide 8 high 4 law 1 hang;bill d plain wide 1 high 1 text d;founder d at 7,3";
        E.is(Driven.of(corner), 0, "full");
        E.is(Driven.of(corner + ";founder d at 7,3"), 1, "full");
    }

    private static void onWhichBill() {
        E.promise(14, "How many a bill would LIE ON at x, y. NONE: 1 (bill)");
        E.asked(EdgeGoTest::plainWall, 0, "on", 2, 0, 0);
        E.asked(EdgeGoTest::plainWall, 1, "on", 2, 1, 0);
        E.asked(EdgeGoTest::plainWall, 2, "on", 0, 1, 0);
        E.asked(EdgeGoTest::plainWall, 0, "on", 3, 3, 0);
        E.refusedFor(EdgeGoTest::plainWall, 1, NO_BILL, 0, "on", 0, 0, 0);
        E.refusedFor(EdgeGoTest::plainWall, 1, NO_BILL, 0, "on", 0, 9, -1);
        E.refused(Driven::new, 1, "on", 0, 0, 0);
    }

    /** Each place on the wall and around it, for bills of all sizes: whether all of it is on the wall. */
    private static void aroundTheWall(String call) {
        int[][] sizes = {{2, 1}, {4, 1}, {1, 1}, {1, 2}};
        for (int b = 0; b < 4; b++) {
            for (int x = -2; x <= 5; x++) {
                for (int y = -2; y <= 3; y++) {
                    boolean there = x >= 0 && y >= 0 && x + sizes[b][0] <= 4 && y + sizes[b][1] <= 2;
                    Driven d = plainWall();
                    int answer = d.ask(call, b, x, y);
                    E.due(call + " of " + b + " at " + x + "," + y + " is refused", answer == CoverTwo.NONE ? 1 : 0,
                        there ? 0 : 1);
                    E.due("its trouble", d.ask("trouble"), there ? 0 : 2);
                }
            }
            E.refusedFor(EdgeGoTest::plainWall, 2, new int[] {-1, 5 - sizes[b][0], 32, Edge.MOST, Edge.LEAST}, 1, call,
                b, 0, 0);
            E.refusedFor(EdgeGoTest::plainWall, 2, new int[] {-1, 3 - sizes[b][1], 32, Edge.MOST, Edge.LEAST}, 2, call,
                b, 0, 0);
        }
    }

    private static void onBeyond() {
        E.promise(14, "2 (beyond the wall).");
        aroundTheWall("on");
        Driven all = Driven.of("wall wide 8 high 4 law 0 seen;bill a plain wide 8 high 4 text a");
        E.is(all, 0, "on", 0, 0, 0);
        E.no(all, 2, "on", 0, 1, 0);
        E.no(all, 2, "on", 0, 0, 1);
    }

    private static void mayOrNot() {
        E.promise(15, "Whether it MAY go there: 1, 0.");
        int[] may = {0, 1, 1, 0};
        for (int x = 0; x < 4; x++) {
            E.asked(EdgeGoTest::plainWall, may[x], "may", 2, x, 0);
            E.asked(EdgeGoTest::plainWall, 0, "may", 2, x, 1);
        }
        E.asked(EdgeGoTest::plainWall, 1, "may", 0, 0, 0);
        E.asked(EdgeGoTest::plainWall, 0, "may", 0, 1, 0);
        E.asked(EdgeGoTest::plainWall, 1, "may", 0, 2, 0);
        E.asked(EdgeGoTest::plainWall, 1, "may", 1, 0, 0);
        E.asked(EdgeGoTest::plainWall, 0, "may", 1, 0, 1);
    }

    private static void mayRefused() {
        E.promise(15, "NONE: likewise.");
        E.refusedFor(EdgeGoTest::plainWall, 1, NO_BILL, 0, "may", 0, 0, 0);
        E.refusedFor(EdgeGoTest::plainWall, 1, NO_BILL, 0, "may", 0, 9, -1);
        E.refused(Driven::new, 1, "may", 0, 0, 0);
        aroundTheWall("may");
    }

    private static Driven free() {
        return Driven.of("wall wide 8 high 4 law 0 seen;bill d plain wide 1 high 1 text d;bill a plain wide 8 high 4 text a"
            + ";bill t torn wide 1 high 1 text t;bill e plain wide 7 high 3 text e");
    }

    private static Driven covered() {
        return Driven.of("wall wide 8 high 4 law 0 seen;bill d plain wide 1 high 1 text d;bill a plain wide 8 high 4 text a"
            + ";bill t torn wide 1 high 1 text t;bill e plain wide 7 high 3 text e;founder a at 0,0");
    }

    private static void howManyPlaces() {
        E.promise(16, "At how many places a bill MAY go.");
        int[] freely = {32, 1, 0, 4};
        int[] overAll = {0, 0, 32, 0};
        for (int b = 0; b < 4; b++) {
            E.asked(EdgeGoTest::free, freely[b], "places", b);
            E.asked(EdgeGoTest::covered, overAll[b], "places", b);
        }
        E.asked(EdgeGoTest::plainWall, 2, "places", 2);
        E.asked(EdgeGoTest::plainWall, 2, "places", 0);
    }

    private static void placesRefused() {
        E.promise(16, "NONE: 1.");
        E.refusedFor(EdgeGoTest::plainWall, 1, NO_BILL, 0, "places", 0);
        E.refused(Driven::new, 1, "places", 0);
    }

    private static void whichPlace() {
        E.promise(17, "The i-th of these, the number of its upper left CELL.");
        for (int i : new int[] {0, 1, 7, 8, 30, 31}) {
            E.asked(EdgeGoTest::free, i, "place", 0, i);
            E.asked(EdgeGoTest::covered, i, "place", 2, i);
        }
        int[] corners = {0, 1, 8, 9};
        for (int i = 0; i < 4; i++) {
            E.asked(EdgeGoTest::free, corners[i], "place", 3, i);
        }
        E.asked(EdgeGoTest::free, 0, "place", 1, 0);
        E.asked(EdgeGoTest::plainWall, 1, "place", 2, 0);
        E.asked(EdgeGoTest::plainWall, 2, "place", 2, 1);
        E.asked(EdgeGoTest::plainWall, 2, "place", 0, 1);
    }

    private static void placeRefused() {
        E.promise(17, "NONE: 1 (bill, i).");
        E.refusedFor(EdgeGoTest::free, 1, new int[] {-1, 32, 33, Edge.MOST, Edge.LEAST}, 1, "place", 0, 0);
        E.refusedFor(EdgeGoTest::free, 1, new int[] {-1, 1, 2}, 1, "place", 1, 0);
        E.refusedFor(EdgeGoTest::free, 1, new int[] {-1, 0, 1}, 1, "place", 2, 0);
        E.refusedFor(EdgeGoTest::free, 1, new int[] {-1, 4, 5}, 1, "place", 3, 0);
        E.refusedFor(EdgeGoTest::free, 1, NO_BILL, 0, "place", 0, 0);
        E.refused(Driven::new, 1, "place", 0, 0);
    }

    private static void fullOrNot() {
        E.promise(18, "Whether it is FULL: 1, 0.");
        E.asked(EdgeGoTest::free, 0, "full");
        E.asked(EdgeGoTest::covered, 0, "full");
        E.asked(() -> Driven.stack(29), 0, "full");
        E.asked(() -> Driven.stack(30), 1, "full");
        E.asked(() -> made("seen", 1, ""), 1, "full");
    }

    private static void fullWithoutWall() {
        E.promise(18, "NONE: 1 (no WALL).");
        E.refused(Driven::new, 1, "full");
    }

    private static void tableOfNumbers() {
        E.promise(19,
            "At how many places a bill could go if it had to lie on just n (0 .. 5), that hang, or that are seen");
        Driven x = made("hang", 4, heap(4)).act("paste", 2, 0, 0, 0);
        int[] hang = {7, 0, 0, 0, 0, 1};
        int[] seen = {7, 1, 0, 0, 0, 0};
        for (int n = 0; n <= 5; n++) {
            E.is(x, hang[n], "table", 2, n, true);
            E.is(x, seen[n], "table", 2, n, false);
        }
        Driven six = made("hang", 4, heap(4)).act("paste", 2, 0, 0, 0).act("paste", 1, 0, 0, 0);
        for (int n = 0; n <= 5; n++) {
            E.is(six, n == 0 ? 4 : n == 1 ? 3 : 0, "table", 2, n, true);
        }
        E.is(six, 6, "on", 2, 0, 0);
        E.asked(EdgeGoTest::free, 32, "table", 0, 0, true);
        E.asked(EdgeGoTest::free, 32, "table", 0, 0, false);
        E.asked(EdgeGoTest::covered, 32, "table", 0, 1, true);
    }

    private static void tableAllElse() {
        E.promise(19, "(all else as for MAY, but torn is as plain)");
        E.asked(EdgeGoTest::free, 32, "table", 2, 0, false);
        E.asked(EdgeGoTest::free, 0, "table", 2, 1, false);
        E.asked(EdgeGoTest::covered, 32, "table", 2, 1, false);
        E.asked(EdgeGoTest::covered, 0, "table", 2, 2, true);
        E.asked(() -> made("seen", 0, ";founder z at 0,0"), 0, "table", 2, 0, true);
        E.asked(() -> made("seen", 0, ""), 4, "table", 3, 0, true);
        E.asked(() -> Driven.stack(29), 1, "table", 0, 1, false);
        E.asked(() -> Driven.stack(30), 0, "table", 0, 1, false);
        String wording = "wall wide 3 high 1 law 4 seen;bill w wording wide 1 high 1 text a"
            + ";bill d plain wide 1 high 1 text b"
            + ";founder d at 2,0";
        E.asked(() -> Driven.of(wording), 0, "table", 0, 0, true);
        E.asked(() -> Driven.of(wording + ";word a"), 2, "table", 0, 0, true);
        E.asked(() -> Driven.of(wording + ";word ab"), 1, "table", 0, 0, true);
        E.asked(() -> Driven.of(wording + ";word a"), 1, "table", 0, 1, true);
        E.asked(() -> Driven.of(wording + ";word ab"), 0, "table", 0, 1, true);
    }

    private static void tableRefused() {
        E.promise(19, "NONE: 1; 2.");
        for (boolean hang : new boolean[] {true, false}) {
            E.refusedFor(EdgeGoTest::plainWall, 1, NO_BILL, 0, "table", 0, 0, hang);
            E.refusedFor(EdgeGoTest::plainWall, 1, NO_BILL, 0, "table", 0, 6, hang);
            E.refusedFor(EdgeGoTest::plainWall, 2, new int[] {-1, 6, 7, Edge.MOST, Edge.LEAST}, 1, "table", 0, 0, hang);
            E.asked(EdgeGoTest::plainWall, 0, "table", 0, 5, hang);
        }
        E.refused(Driven::new, 1, "table", 0, 6, true);
    }
}
