/** Promises 20 to 26 at their edges: pasting, peeling, tearing, scraping, days, rivals, undoing. */
public final class EdgeActsTest {
    private static final Edge E = new Edge();
    /** Bills 0 big, 1 dot, 2 rag, 3 end; row 0: a b . . and row 1: c d . . of the founder's. */
    private static final String TEXT = "wall wide 4 high 2 law 1 seen;bill big plain wide 2 high 2 text abcd"
        + ";bill dot plain wide 1 high 1 text x;bill rag torn wide 2 high 1 text rs;bill end last wide 1 high 1 text z"
        + ";rival one sheets 3;rival two sheets 1;rival nil sheets 0;founder big at 0,0";

    public static void main(String[] args) {
        sheetsOneLess();
        sheetsDontComeBack();
        seenCellsOfAll();
        paidByTheDay();
        latestIsGone();
        goneFromBetween();
        allButTheFounders();
        fiveActs();
        pasted();
        pasteNoSuch();
        pasteBeyond();
        pasteWithoutSheets();
        pasteMayNot();
        peeled();
        peelOnlyFounders();
        torn();
        tornNumbers();
        tearRefused();
        scraped();
        scrapeWithoutWall();
        daysAtTheirBounds();
        daysCells();
        daysRefused();
        ofARival();
        rivalRefused();
        twelveAreKept();
        keptAgainAndAgain();
        eachActUndone();
        undoneToNothing();
        undoRefused();
        E.end(20, 26);
    }

    private static Driven told() {
        return Driven.of(TEXT);
    }

    /** Something of everything: two pasted, one of them at once without sheets, paid, marked. */
    private static Driven lively() {
        return told().act("paste", 1, 0, 0, 0).act("days", 3).act("mark").act("paste", 1, 1, 0, 1);
    }

    private static void sheetsOneLess() {
        E.term("A rival's SHEETS: one less for each that it pastes.");
        Driven x = Driven.stack(1);
        for (int sheets = 20; sheets > 0; sheets--) {
            E.is(x, sheets, "rival", 0, 0);
            x.act("paste", 0, 0, 0, 0);
        }
        E.is(x, 0, "rival", 0, 0);
        E.is(x, 20, "rival", 1, 0);
        E.no(x, 6, "paste", 0, 0, 0, 0);
        E.is(x, 0, "rival", 0, 0);
        E.is(x, 1, "paste", 0, 0, 0, 1);
        E.is(x, 19, "rival", 1, 0);
    }

    private static void sheetsDontComeBack() {
        E.term("(SHEETS don't come back.)");
        for (Object[] act : new Object[][] {{"peel"}, {"tear", 2}, {"tear", 1}, {"scrape"}}) {
            Driven x = lively();
            E.due(act[0] + " is done", x.askRow(act), 1);
            E.is(x, 2, "rival", 0, 0);
            E.is(x, 0, "rival", 1, 0);
            E.is(x, 0, "rival", 2, 0);
            E.no(x, 6, "paste", 1, 1, 1, 1);
        }
    }

    private static void seenCellsOfAll() {
        E.term("Its SEEN CELLS: of all that it pasted.");
        Driven x = told();
        E.is(x, 0, "rival", 0, 1);
        x.act("paste", 1, 0, 0, 0);
        E.is(x, 1, "rival", 0, 1);
        x.act("paste", 1, 1, 1, 0);
        E.is(x, 2, "rival", 0, 1);
        x.act("paste", 1, 1, 1, 0);
        E.is(x, 2, "rival", 0, 1);
        x.act("paste", 1, 0, 0, 1);
        E.is(x, 1, "rival", 0, 1);
        E.is(x, 1, "rival", 1, 1);
        x.act("tear", 3);
        E.is(x, 1, "rival", 0, 1);
        x.act("scrape");
        E.is(x, 0, "rival", 0, 1);
        E.is(x, 0, "rival", 1, 1);
    }

    private static void paidByTheDay() {
        E.term("A DAY: each rival is PAID its SEEN CELLS.");
        Driven x = told().act("days", 30);
        int[] paid = {0, 0, 0};
        int[][] pastes = {{1, 0, 0, 0}, {1, 1, 0, 1}, {2, 0, 0, 0}, {1, 0, 1, 0}};
        int[][] cells = {{1, 0}, {1, 1}, {2, 0}, {3, 0}};
        for (int i = 0; i < pastes.length; i++) {
            x.act("paste", pastes[i][0], pastes[i][1], pastes[i][2], pastes[i][3]);
            E.is(x, cells[i][0] + cells[i][1], "days", 1);
            E.is(x, cells[i][0] + cells[i][1], "days", 2);
            paid[0] += 3 * cells[i][0];
            paid[1] += 3 * cells[i][1];
            for (int r = 0; r < 3; r++) {
                E.is(x, paid[r], "rival", r, 2);
            }
        }
    }

    private static void latestIsGone() {
        E.term("PEEL: the latest that isn't the founder's is gone.");
        Driven x = Driven.stack(30);
        for (int left = 29; left >= 1; left--) {
            E.is(x, 1, "peel");
            E.is(x, left, "hanging");
            E.is(x, left - 1, "shows", 0, 0);
        }
        E.no(x, 6, "peel");
        E.is(x, 1, "hanging");
        E.is(x, -2, "hung", 0, 3);
    }

    private static void goneFromBetween() {
        E.term("TEAR: one that isn't the founder's is gone from between");
        Driven x = told().act("paste", 1, 0, 0, 0).act("paste", 1, 1, 0, 0).act("paste", 1, 0, 1, 0);
        E.is(x, 1, "tear", 2);
        E.is(x, 3, "hanging");
        E.is(x, 1, "shows", 0, 0);
        E.is(x, 0, "shows", 1, 0);
        E.is(x, 2, "shows", 0, 1);
        E.no(x, 5, "tear", 0);
        E.is(x, 3, "hanging");
    }

    private static void allButTheFounders() {
        E.term("SCRAPE: all but the founder's are gone.");
        for (int founders = 0; founders <= 4; founders++) {
            Driven x = Driven.of("wall wide 8 high 1 law 0 seen;bill d plain wide 1 high 1 text d;rival r sheets 9"
                + ";founder d at 7,0".repeat(founders));
            x.act("paste", 0, 0, 0, 0).act("paste", 0, 1, 0, 0);
            E.is(x, 1, "scrape");
            E.is(x, founders, "hanging");
            E.is(x, -2, "shows", 0, 0);
            E.is(x, founders - 1 < 0 ? -2 : founders - 1, "shows", 7, 0);
            E.is(x, 1, "scrape");
            E.is(x, founders, "hanging");
        }
    }

    private static void fiveActs() {
        E.term("ACTS: PASTE, PEEL, TEAR, SCRAPE, DAYS.");
        Object[][] acts = {{"paste", 1, 1, 1, 0}, {"peel"}, {"tear", 1}, {"scrape"}, {"days", 1}};
        for (Object[] act : acts) {
            Driven x = lively();
            x.askRow(act);
            E.due("acts behind " + act[0], x.ask("size", 8), 4);
        }
        Object[][] others = {{"mark"}, {"life", 1, true}, {"far", 2}, {"orders"}, {"best", 1}, {"stays", 1, 0, 0},
            {"close", 0, 2}, {"wall", -1}, {"feed", 0, 0, 0, 0, 0}, {"may", 1, 0, 0}, {"back", 7}};
        for (Object[] other : others) {
            Driven x = lively();
            x.askRow(other);
            E.due("acts behind " + other[0], x.ask("size", 8), 3);
        }
    }

    private static void pasted() {
        E.promise(20, "A rival pastes a bill: true");
        Driven x = told();
        E.is(x, 1, "paste", 1, 1, 1, 1);
        int[] due = {1, 1, 1, 1, 1};
        for (int what = 0; what < 5; what++) {
            E.is(x, due[what], "hung", 1, what);
        }
        E.is(x, 1, "size", 8);
        E.is(x, 0, "rival", 1, 0);
        E.is(x, 1, "paste", 2, 0, 1, 0);
        E.is(x, 3, "hanging");
        E.is(x, 0, "hung", 1, 4);
        E.is(x, 2, "hung", 0, 4);
        E.is(x, 2, "hung", 2, 4);
    }

    private static void pasteNoSuch() {
        E.promise(20, "false: 1 (bill, rival)");
        int[] noBill = {-1, 4, 5, Edge.MOST, Edge.LEAST};
        int[] noRival = {-1, -2, 3, 4, Edge.MOST, Edge.LEAST};
        E.refusedFor(EdgeActsTest::lively, 1, noBill, 0, "paste", 0, 0, 0, 0);
        E.refusedFor(EdgeActsTest::lively, 1, noBill, 0, "paste", 0, 9, 9, 1);
        E.refusedFor(EdgeActsTest::lively, 1, noRival, 3, "paste", 1, 0, 0, 0);
        E.refusedFor(EdgeActsTest::lively, 1, noRival, 3, "paste", 1, 9, 9, 0);
        E.refusedFor(EdgeActsTest::lively, 1, noRival, 3, "paste", 0, 0, 0, 0);
        E.refused(EdgeActsTest::lively, 1, "paste", -1, 0, 0, -1);
        E.refused(Driven::new, 1, "paste", 0, 0, 0, 0);
        E.refused(() -> Driven.of("wall wide 2 high 1 law 0 seen"
            + ";bill a plain wide 1 high 1 text a"), 1, "paste", 0, 0, 0, 0);
    }

    private static void pasteBeyond() {
        E.promise(20, "2 (beyond the wall)");
        for (int rival = 0; rival < 3; rival++) {
            E.refusedFor(EdgeActsTest::lively, 2, new int[] {-1, 3, 4, Edge.MOST, Edge.LEAST}, 1, "paste", 0, 0, 0, rival);
            E.refusedFor(EdgeActsTest::lively, 2, new int[] {-1, 1, 2, Edge.MOST, Edge.LEAST}, 2, "paste", 0, 0, 0, rival);
            E.refusedFor(EdgeActsTest::lively, 2, new int[] {-1, 4, 5}, 1, "paste", 1, 0, 0, rival);
            E.refusedFor(EdgeActsTest::lively, 2, new int[] {-1, 2, 3}, 2, "paste", 1, 0, 0, rival);
        }
        E.refused(EdgeActsTest::lively, 5, "paste", 0, 2, 0, 0);
        E.refused(EdgeActsTest::lively, 5, "paste", 1, 3, 1, 0);
        E.is(lively(), 1, "paste", 1, 1, 1, 0);
    }

    private static void pasteWithoutSheets() {
        E.promise(20, "6 (no SHEETS)");
        E.refused(EdgeActsTest::lively, 6, "paste", 1, 1, 1, 1);
        E.refused(EdgeActsTest::lively, 6, "paste", 1, 1, 1, 2);
        E.refused(EdgeActsTest::lively, 6, "paste", 1, 3, 1, 1);
        E.refused(EdgeActsTest::lively, 6, "paste", 1, 3, 1, 2);
        Driven x = lively();
        E.is(x, 1, "paste", 1, 1, 1, 0);
        E.is(x, 1, "paste", 1, 0, 1, 0);
        E.is(x, 0, "rival", 0, 0);
        E.no(x, 6, "paste", 1, 0, 1, 0);
        E.is(x, 1, "may", 1, 0, 1);
    }

    private static void pasteMayNot() {
        E.promise(20, "5 (it MAY not go there)");
        E.refused(EdgeActsTest::lively, 5, "paste", 1, 2, 0, 0);
        E.refused(EdgeActsTest::lively, 5, "paste", 0, 0, 0, 0);
        E.refused(EdgeActsTest::lively, 5, "paste", 2, 0, 1, 0);
        E.refused(() -> lively().act("paste", 3, 0, 0, 0), 5, "paste", 1, 0, 0, 0);
        E.is(lively(), 1, "paste", 1, 0, 0, 0);
        E.is(lively(), 1, "paste", 2, 0, 0, 0);
        E.refused(() -> Driven.stack(30), 5, "paste", 0, 0, 0, 0);
        E.is(Driven.stack(29), 1, "paste", 0, 0, 0, 0);
    }

    private static void peeled() {
        E.promise(21, "PEEL: true");
        Driven x = lively();
        E.is(x, 1, "peel");
        E.is(x, 2, "hanging");
        E.is(x, 0, "shows", 1, 0);
        E.is(x, 1, "shows", 0, 0);
        E.is(x, 1, "peel");
        E.is(x, 1, "hanging");
        E.is(x, 0, "shows", 0, 0);
        E.is(x, 4, "hung", 0, 4);
        E.is(x, 5, "size", 8);
        E.is(x, 3, "rival", 0, 2);
    }

    private static void peelOnlyFounders() {
        E.promise(21, "false: 6 (only the founder's HANG).");
        E.refused(EdgeActsTest::told, 6, "peel");
        E.refused(() -> told().act("days", 2).act("scrape").act("mark"), 6, "peel");
        E.refused(() -> lively().act("peel").act("peel"), 6, "peel");
        E.refused(() -> Driven.of(TEXT + ";founder dot at 0,0;founder dot at 0,0;founder end at 3,1"), 6, "peel");
        E.refused(() -> Driven.of("wall wide 2 high 1 law 0 seen;bill a plain wide 1 high 1 text a"), 6, "peel");
        E.refused(Driven::new, 6, "peel");
        E.is(told().act("paste", 1, 0, 0, 0), 1, "peel");
    }

    /** Four that hang: the founder's, dots at 0,0 and 1,0, and a rag over both. */
    private static Driven four() {
        return lively().act("paste", 2, 0, 0, 0);
    }

    private static void torn() {
        E.promise(22, "TEAR: true");
        Driven first = four();
        E.is(first, 1, "tear", 1);
        E.is(first, 3, "hanging");
        E.is(first, 2, "shows", 0, 0);
        E.is(first, 3, "under", 2);
        E.is(first, 1, "under", 1);
        E.is(first, 1, "hung", 1, 1);
        E.is(first, 1, "hung", 1, 3);
        Driven last = four();
        E.is(last, 1, "tear", 3);
        E.is(last, 3, "hanging");
        E.is(last, 1, "shows", 0, 0);
        E.is(last, 2, "shows", 1, 0);
        E.is(last, 1, "hung", 1, 4);
        E.is(last, 5, "size", 8);
    }

    private static void tornNumbers() {
        E.term("those behind it have numbers one less.");
        for (int gone : new int[] {1, 2, 15, 28, 29}) {
            Driven x = Driven.stack(30).act("tear", gone);
            E.is(x, 29, "hanging");
            for (int i = 0; i < 29; i++) {
                int was = i < gone ? i : i + 1;
                E.is(x, was == 0 ? -2 : was % 2, "hung", i, 3);
                E.is(x, i == 28 ? 2 : 0, "hung", i, 4);
            }
            E.no(x, 1, "hung", 29, 3);
            E.is(x, 28, "shows", 0, 0);
        }
    }

    private static void tearRefused() {
        E.promise(22, "false: 1; 5 (the founder's).");
        E.refusedFor(EdgeActsTest::four, 1, new int[] {-1, 4, 5, 30, Edge.MOST, Edge.LEAST}, 0, "tear", 0);
        E.refused(EdgeActsTest::four, 5, "tear", 0);
        String founders = TEXT + ";founder dot at 3,0;founder dot at 3,1;founder dot at 2,1";
        for (int i = 0; i < 4; i++) {
            E.refused(() -> Driven.of(founders).act("paste", 1, 0, 0, 0), 5, "tear", i);
        }
        E.is(Driven.of(founders).act("paste", 1, 0, 0, 0), 1, "tear", 4);
        E.refused(() -> Driven.of(founders).act("paste", 1, 0, 0, 0), 1, "tear", 5);
        E.refused(EdgeActsTest::told, 1, "tear", 1);
        E.refused(Driven::new, 1, "tear", 0);
        E.refused(() -> Driven.stack(30), 1, "tear", 30);
        E.is(Driven.stack(30), 1, "tear", 29);
    }

    private static void scraped() {
        E.promise(23, "SCRAPE: true");
        Driven x = four().act("days", 1).act("paste", 3, 0, 1, 0);
        E.is(x, 1, "full");
        E.is(x, 1, "scrape");
        E.is(x, 1, "hanging");
        E.is(x, 4, "hung", 0, 4);
        E.is(x, 0, "full");
        E.is(x, 0, "rival", 0, 0);
        E.is(x, 0, "rival", 0, 1);
        E.is(x, 5, "rival", 0, 2);
        E.is(x, 7, "size", 8);
        E.is(x, 1, "size", 9);
        Driven none = told();
        E.is(none, 1, "scrape");
        E.is(none, 1, "hanging");
        E.is(none, 1, "size", 8);
        Driven empty = Driven.of("wall wide 2 high 1 law 0 seen;bill a plain wide 1 high 1 text a");
        E.is(empty, 1, "scrape");
        E.is(empty, 0, "hanging");
        E.is(Driven.stack(30).act("scrape"), 1, "hanging");
    }

    private static void scrapeWithoutWall() {
        E.promise(23, "false: 1 (no WALL).");
        E.refused(Driven::new, 1, "scrape");
        Driven x = new Driven();
        x.ask("scrape");
        E.is(x, 0, "size", 8);
    }

    private static void daysAtTheirBounds() {
        E.promise(24, "So many DAYS (1 .. 30)");
        for (int n : new int[] {1, 2, 29, 30}) {
            Driven x = four();
            E.is(x, 2, "days", n);
            E.is(x, 3 + 2 * n, "rival", 0, 2);
            E.is(x, 0, "rival", 1, 2);
            E.is(x, 0, "rival", 2, 2);
            E.is(x, 5, "size", 8);
        }
    }

    private static void daysCells() {
        E.promise(24, "how many CELLS are SEEN of all rivals.");
        E.is(told(), 0, "days", 30);
        E.is(lively(), 2, "days", 30);
        E.is(Driven.stack(1), 0, "days", 1);
        E.is(Driven.stack(30), 2, "days", 1);
        Driven all = Driven.of("wall wide 8 high 4 law 0 seen;bill a plain wide 8 high 4 text a;rival r sheets 1")
            .act("paste", 0, 0, 0, 0);
        E.is(all, 32, "days", 30);
        E.is(all, 960, "rival", 0, 2);
        E.is(all.times(100, "days", 30), 101 * 960, "rival", 0, 2);
        Driven none = Driven.of("wall wide 2 high 1 law 0 seen;bill a plain wide 1 high 1 text a");
        E.is(none, 0, "days", 1);
        E.is(none, 1, "size", 8);
    }

    private static void daysRefused() {
        E.promise(24, "NONE: 1 (no WALL); 2.");
        for (int n : new int[] {0, 1, 30, 31, -1}) {
            E.refused(Driven::new, 1, "days", n);
        }
        E.refusedFor(EdgeActsTest::four, 2, new int[] {0, -1, 31, 32, Edge.MOST, Edge.LEAST}, 0, "days", 1);
    }

    private static void ofARival() {
        E.promise(25, "Of a rival 0 SHEETS, 1 SEEN CELLS, 2 what it was PAID.");
        int[][] due = {{2, 1, 3}, {0, 1, 0}, {0, 0, 0}};
        int[][] behind = {{1, 2, 3}, {0, 0, 0}, {0, 0, 0}};
        for (int r = 0; r < 3; r++) {
            for (int what = 0; what < 3; what++) {
                E.asked(EdgeActsTest::lively, due[r][what], "rival", r, what);
                E.asked(EdgeActsTest::four, behind[r][what], "rival", r, what);
            }
        }
        E.is(four().act("peel"), 1, "rival", 1, 1);
        E.is(Driven.stack(30), 0, "rival", 0, 1);
        E.is(Driven.stack(30), 2, "rival", 1, 1);
        Driven two = told().act("paste", 1, 0, 0, 0).act("paste", 1, 1, 1, 0);
        E.is(two, 2, "rival", 0, 1);
        E.is(two.act("paste", 1, 1, 1, 1), 1, "rival", 0, 1);
    }

    private static void rivalRefused() {
        E.promise(25, "NONE: 1.");
        for (int what = -1; what <= 3; what++) {
            E.refusedFor(EdgeActsTest::lively, 1, new int[] {-1, -2, 3, 4, Edge.MOST, Edge.LEAST}, 0, "rival", 0, what);
        }
        for (int r = 0; r < 3; r++) {
            E.refusedFor(EdgeActsTest::lively, 1, new int[] {-1, 3, 4, Edge.MOST, Edge.LEAST}, 1, "rival", r, 0);
        }
        E.refused(() -> Driven.of("wall wide 2 high 1 law 0 seen;bill a plain wide 1 high 1 text a"), 1, "rival", 0, 0);
        E.refused(Driven::new, 1, "rival", 0, 0);
    }

    private static void twelveAreKept() {
        E.term("UNDO: the latest (12 are kept).");
        for (int acts : new int[] {0, 1, 11, 12, 13, 24, 25}) {
            Driven x = Driven.stack(1 + acts);
            int kept = Math.min(acts, 12);
            for (int left = kept; left > 0; left--) {
                E.is(x, left, "size", 8);
                E.is(x, 1, "undo");
                E.is(x, 1 + acts - (kept - left + 1), "hanging");
            }
            E.is(x, 0, "size", 8);
            E.no(x, 6, "undo");
            E.is(x, 1 + acts - kept, "hanging");
        }
    }

    /** Undoing and acting by turns, so that what is kept goes round more than once. */
    private static void keptAgainAndAgain() {
        E.term("UNDO: the latest (12 are kept).");
        Driven x = Driven.stack(2);
        int paid = 0;
        for (int n = 1; n <= 30; n++) {
            x.act("days", n);
            x.act("days", 30);
            E.is(x, 1, "undo");
            paid += 2 * n;
            E.is(x, paid, "rival", 1, 2);
        }
        E.is(x, 11, "size", 8);
        for (int n = 30; n > 19; n--) {
            E.is(x, 1, "undo");
            paid -= 2 * n;
            E.is(x, paid, "rival", 1, 2);
        }
        E.no(x, 6, "undo");
        E.is(x, paid, "rival", 1, 2);
    }

    private static void eachActUndone() {
        E.promise(26, "UNDO: true");
        Object[][] acts = {{"paste", 1, 1, 1, 0}, {"peel"}, {"tear", 1}, {"tear", 2}, {"tear", 3}, {"scrape"}, {"days", 1},
            {"days", 30}, {"paste", 3, 1, 1, 0}};
        for (Object[] act : acts) {
            Driven x = four();
            x.askRow(act);
            E.is(x, 5, "size", 8);
            E.is(x, 1, "undo");
            E.stays(EdgeActsTest::four, x, act[0] + " undone");
        }
    }

    /** A wall where nothing is the founder's: all that hangs goes, and comes back. */
    private static void undoneToNothing() {
        E.promise(26, "UNDO: true");
        String text = "wall wide 3 high 1 law 0 seen;bill d plain wide 1 high 1 text d"
            + ";bill e plain wide 2 high 1 text e;rival r sheets 9";
        Driven x = Driven.of(text).act("paste", 1, 1, 0, 0);
        E.is(x, 1, "undo");
        E.is(x, 0, "hanging");
        E.is(x, -2, "shows", 1, 0);
        E.no(x, 1, "hung", 0, 0);
        Driven anew = Driven.of(text).act("paste", 1, 1, 0, 0).act("scrape").act("paste", 0, 0, 0, 0);
        E.is(anew, 1, "undo");
        E.is(anew, 0, "hanging");
        E.is(anew, 1, "undo");
        E.stays(() -> Driven.of(text).act("paste", 1, 1, 0, 0), anew, "undo");
    }

    private static void undoRefused() {
        E.promise(26, "false: 6.");
        E.refused(Driven::new, 6, "undo");
        E.refused(EdgeActsTest::told, 6, "undo");
        E.refused(() -> told().act("mark").act("days", 1).act("back", 0), 6, "undo");
        Driven x = told().act("days", 1);
        E.is(x, 1, "undo");
        E.no(x, 6, "undo");
        for (Object[] refused : new Object[][] {{"paste", 1, 3, 1, 0}, {"peel"}, {"tear", 0}, {"tear", 9}, {"days", 31}}) {
            Driven y = told();
            y.askRow(refused);
            E.no(y, 6, "undo");
        }
    }
}
