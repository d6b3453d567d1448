/** Promises 6 to 13 at their edges, with what Terms II says of cells: bills, what hangs, what shows, what lies beneath. */
public final class EdgeCellsTest {
    private static final Edge E = new Edge();
    private static final int[] NO_BILL = {-1, 4, 5, 32, Edge.MOST, Edge.LEAST};
    private static final int[] NO_WIDE = {-1, 8, 9, 32, Edge.MOST, Edge.LEAST};
    private static final int[] NO_HIGH = {-1, 4, 5, 32, Edge.MOST, Edge.LEAST};

    public static void main(String[] args) {
        cellNumbers();
        foundersFirst();
        latestShows();
        seenByCells();
        lettersOfText();
        ofABill();
        noSuchBill();
        howManyHang();
        hangingWithoutWall();
        ofOneHanging();
        noSuchHanging();
        showsNone();
        noSuchCell();
        letters();
        noLetter();
        unders();
        overs();
        noneToBeUnder();
        beneaths();
        fewerBeneath();
        E.end(6, 13);
    }

    /** Bills 0 dot of one cell, 1 sheet of all, 2 tall, 3 flat; the smallest and the largest there can be. */
    private static Driven large() {
        return Driven.of("wall wide 8 high 4 law 0 seen;bill dot plain wide 1 high 1 text z"
            + ";bill sheet torn wide 8 high 4 text abcdefgh;bill tall wording wide 2 high 4 text xy"
            + ";bill flat last wide 7 high 1 text abc;rival p sheets 20;rival q sheets 1;rival r sheets 0"
            + ";founder dot at 0,0;founder dot at 7,0;founder dot at 0,3;founder dot at 7,3");
    }

    private static Driven small() {
        return Driven.of("wall wide 2 high 1 law 0 hang;bill a plain wide 1 high 1 text ab;rival r sheets 1");
    }

    private static Driven stack30() {
        return Driven.stack(30);
    }

    /** Founder's 0 at the left, 1 beside it; then 2 over the first, 3 over the second, 4 at the right end. */
    private static Driven five() {
        return Driven.of("wall wide 6 high 1 law 0 hang;bill a plain wide 2 high 1 text abc"
            + ";bill t torn wide 2 high 1 text d"
            + ";bill d plain wide 1 high 1 text e;rival p sheets 9;rival q sheets 9"
            + ";founder a at 0,0"
            + ";founder d at 2,0").act("paste", 1, 0, 0, 1).act("paste", 1, 2, 0, 0).act("paste", 2, 5, 0, 0);
    }

    /** Three side by side, and one over the second and the third, a row lower too. */
    private static Driven sideBySide() {
        return Driven.of("wall wide 3 high 2 law 0 seen;bill d plain wide 1 high 1 text a;bill e plain wide 2 high 2 text b"
            + ";founder d at 0,0;founder d at 1,0;founder d at 2,0;founder e at 1,0");
    }

    private static void cellNumbers() {
        E.term("CELLS have numbers: wide times y and x.");
        E.asked(EdgeCellsTest::large, 28, "places", 0);
        int[] first = {1, 2, 3, 4, 5, 6, 8};
        for (int i = 0; i < first.length; i++) {
            E.is(large(), first[i], "place", 0, i);
        }
        E.is(large(), 22, "place", 0, 20);
        E.is(large(), 23, "place", 0, 21);
        E.is(large(), 25, "place", 0, 22);
        E.is(large(), 30, "place", 0, 27);
        E.is(small(), 1, "place", 0, 1);
    }

    private static void foundersFirst() {
        E.term("HANGING are bills by numbers, as they came, the founder's first.");
        for (int founders : new int[] {0, 1, 4}) {
            Driven x = Driven.of("wall wide 8 high 4 law 0 seen;bill d plain wide 1 high 1 text d;rival r sheets 20"
                + ";founder d at 7,3".repeat(founders) + ";paste d at 6,3 by r;paste d at 5,3 by r");
            x.act("paste", 0, 4, 3, 0);
            for (int i = 0; i < founders + 3; i++) {
                E.is(x, i < founders ? -2 : 0, "hung", i, 3);
                E.is(x, i < founders ? 7 : 6 - (i - founders), "hung", i, 1);
            }
            E.no(x, 1, "hung", founders + 3, 3);
        }
    }

    private static void latestShows() {
        E.term("A CELL SHOWS the latest that is there");
        Driven x = Driven.stack(1);
        for (int i = 0; i < 29; i++) {
            E.is(x, i, "shows", 1, 0);
            x.act("paste", 0, 0, 0, i % 2);
        }
        E.is(x, 29, "shows", 1, 0);
        x.act("peel");
        E.is(x, 28, "shows", 1, 0);
    }

    private static void seenByCells() {
        E.term("a HANGING one is SEEN by the CELLS that SHOW it.");
        Driven x = Driven.of("wall wide 4 high 1 law 1 seen;bill a plain wide 4 high 1 text a"
            + ";bill d plain wide 1 high 1 text d;rival r sheets 9;founder a at 0,0");
        for (int covered = 0; covered < 4; covered++) {
            E.is(x, 4 - covered, "hung", 0, 4);
            E.is(x, Driven.THROWN, "led", 0);
            x.act("paste", 1, covered, 0, 0);
            E.is(x, 1, "hung", covered + 1, 4);
        }
        E.is(x, 0, "hung", 0, 4);
        E.is(x, 0, "led", 0);
        x.act("paste", 1, 3, 0, 0);
        E.is(x, 0, "hung", 4, 4);
        x.act("peel").act("peel");
        E.is(x, 1, "hung", 0, 4);
    }

    private static void lettersOfText() {
        E.term("in the bill's own rows its CELLS are numbered from 0 on;"
            + " the TEXT's letter of that number, mod how many it has.");
        String[] texts = {"a", "ab", "abc", "abcde", "abcdef", "abcdefg", "abcdefgh"};
        for (String text : texts) {
            Driven x = Driven.of("wall wide 4 high 3 law 0 seen;bill a plain wide 3 high 2 text " + text
                + ";founder a at 1,1");
            for (int cell = 0; cell < 6; cell++) {
                E.is(x, cell % text.length(), "letter", 1 + cell % 3, 1 + cell / 3);
            }
        }
        Driven x = Driven.of("wall wide 8 high 4 law 0 seen;bill a plain wide 8 high 4 text abcdefg;founder a at 0,0");
        for (int cell = 0; cell < 32; cell++) {
            E.is(x, cell % 7, "letter", cell % 8, cell / 8);
        }
    }

    private static void ofABill() {
        E.promise(6, "Of a bill told 0 its KIND (0 plain, 1 torn, 2 wording, 3 last), 1 how wide, 2 how high,"
            + " 3 how many letters its TEXT has.");
        int[][] due = {{0, 1, 1, 1}, {1, 8, 4, 8}, {2, 2, 4, 2}, {3, 7, 1, 3}};
        for (int b = 0; b < 4; b++) {
            for (int what = 0; what < 4; what++) {
                E.asked(EdgeCellsTest::large, due[b][what], "bill", b, what);
            }
        }
    }

    private static void noSuchBill() {
        E.promise(6, "NONE: 1.");
        for (int what = -1; what <= 4; what++) {
            E.refusedFor(EdgeCellsTest::large, 1, NO_BILL, 0, "bill", 0, what);
        }
        for (int b = 0; b < 4; b++) {
            E.refusedFor(EdgeCellsTest::large, 1, NO_BILL, 1, "bill", b, 0);
        }
        E.asked(EdgeCellsTest::small, 0, "bill", 0, 0);
        E.refused(EdgeCellsTest::small, 1, "bill", 1, 0);
        E.refused(Driven::new, 1, "bill", 0, 0);
    }

    private static void howManyHang() {
        E.promise(7, "How many HANG.");
        E.asked(EdgeCellsTest::small, 0, "hanging");
        E.asked(EdgeCellsTest::large, 4, "hanging");
        for (int hanging : new int[] {1, 2, 29, 30}) {
            E.asked(() -> Driven.stack(hanging), hanging, "hanging");
        }
        Driven x = stack30();
        E.no(x, 5, "paste", 0, 0, 0, 0);
        E.is(x, 30, "hanging");
        x.act("scrape");
        E.is(x, 1, "hanging");
    }

    private static void hangingWithoutWall() {
        E.promise(7, "NONE: 1 (no WALL).");
        E.refused(Driven::new, 1, "hanging");
        Driven x = new Driven();
        x.tell("wall wide 2 high 1 law 0 hang");
        E.no(x, 1, "hanging");
    }

    private static void ofOneHanging() {
        E.promise(8,
            "Of one HANGING 0 its bill, 1 x, 2 y, 3 the rival (-2 the founder's), 4 by how many CELLS it is SEEN.");
        int[][] corners = {{0, 0}, {7, 0}, {0, 3}, {7, 3}};
        for (int i = 0; i < 4; i++) {
            E.asked(EdgeCellsTest::large, 0, "hung", i, 0);
            E.asked(EdgeCellsTest::large, corners[i][0], "hung", i, 1);
            E.asked(EdgeCellsTest::large, corners[i][1], "hung", i, 2);
            E.asked(EdgeCellsTest::large, -2, "hung", i, 3);
            E.asked(EdgeCellsTest::large, 1, "hung", i, 4);
        }
        int[][] due = {{0, 0, 0, -2, 0}, {2, 2, 0, -2, 0}, {1, 0, 0, 1, 2}, {1, 2, 0, 0, 2}, {2, 5, 0, 0, 1}};
        for (int i = 0; i < 5; i++) {
            for (int what = 0; what < 5; what++) {
                E.asked(EdgeCellsTest::five, due[i][what], "hung", i, what);
            }
        }
        Driven third = large().act("paste", 0, 3, 1, 1);
        E.is(third, 1, "hung", 4, 3);
        E.is(third, 3, "hung", 4, 1);
        E.is(stack30(), 0, "hung", 28, 4);
        E.is(stack30(), 2, "hung", 29, 4);
        Driven sheet = Driven.of("wall wide 8 high 4 law 0 seen;bill a plain wide 8 high 4 text a;founder a at 0,0");
        E.is(sheet, 32, "hung", 0, 4);
    }

    private static void noSuchHanging() {
        E.promise(8, "NONE: 1.");
        for (int what = -1; what <= 5; what++) {
            E.refusedFor(EdgeCellsTest::five, 1, new int[] {-1, 5, 6, 30, Edge.MOST, Edge.LEAST}, 0, "hung", 0, what);
        }
        E.refusedFor(EdgeCellsTest::five, 1, new int[] {-1, 5, Edge.MOST, Edge.LEAST}, 1, "hung", 4, 0);
        E.refused(EdgeCellsTest::small, 1, "hung", 0, 0);
        E.refusedFor(EdgeCellsTest::stack30, 1, new int[] {30, 31, 32}, 0, "hung", 0, 0);
        E.refused(Driven::new, 1, "hung", 0, 0);
    }

    private static void showsNone() {
        E.promise(9, "Which one a CELL SHOWS; -2 none.");
        for (int cell = 0; cell < 32; cell++) {
            int due = cell == 0 ? 0 : cell == 7 ? 1 : cell == 24 ? 2 : cell == 31 ? 3 : -2;
            E.is(large(), due, "shows", cell % 8, cell / 8);
        }
        E.asked(EdgeCellsTest::small, -2, "shows", 0, 0);
        E.asked(EdgeCellsTest::small, -2, "shows", 1, 0);
        int[] due = {2, 2, 3, 3, -2, 4};
        for (int cell = 0; cell < 6; cell++) {
            E.asked(EdgeCellsTest::five, due[cell], "shows", cell, 0);
        }
    }

    private static void noSuchCell() {
        E.promise(9, "NONE: 1.");
        E.refusedFor(EdgeCellsTest::large, 1, NO_WIDE, 0, "shows", 0, 0);
        E.refusedFor(EdgeCellsTest::large, 1, NO_WIDE, 0, "shows", 0, 3);
        E.refusedFor(EdgeCellsTest::large, 1, NO_HIGH, 1, "shows", 7, 0);
        E.refused(EdgeCellsTest::small, 1, "shows", 2, 0);
        E.refused(EdgeCellsTest::small, 1, "shows", 0, 1);
        E.refused(EdgeCellsTest::small, 1, "shows", 1, 1);
        E.refused(Driven::new, 1, "shows", 0, 0);
    }

    private static void letters() {
        E.promise(10, "The letter of a CELL (0 a, ..); -2 none.");
        for (int letter : new int[] {0, 1, 24, 25}) {
            Driven x = Driven.of("wall wide 2 high 1 law 0 seen;bill a plain wide 1 high 1 text " + (char) ('a' + letter)
                + ";founder a at 1,0");
            E.is(x, letter, "letter", 1, 0);
            E.is(x, -2, "letter", 0, 0);
        }
        E.asked(EdgeCellsTest::large, 25, "letter", 7, 3);
        E.asked(EdgeCellsTest::large, -2, "letter", 6, 3);
        Driven x = five();
        E.is(x, 3, "letter", 0, 0);
        x.act("tear", 2);
        E.is(x, 0, "letter", 0, 0);
        E.is(x, 1, "letter", 1, 0);
        E.is(x, -2, "letter", 4, 0);
    }

    private static void noLetter() {
        E.promise(10, "NONE: 1.");
        E.refusedFor(EdgeCellsTest::large, 1, NO_WIDE, 0, "letter", 0, 0);
        E.refusedFor(EdgeCellsTest::large, 1, NO_WIDE, 0, "letter", 0, 3);
        E.refusedFor(EdgeCellsTest::large, 1, NO_HIGH, 1, "letter", 7, 0);
        E.refused(EdgeCellsTest::small, 1, "letter", 2, 0);
        E.refused(EdgeCellsTest::small, 1, "letter", 1, 1);
        E.refused(Driven::new, 1, "letter", 0, 0);
    }

    private static void unders() {
        E.promise(11, "Those under one HANGING (they have a CELL in common with it, and came ahead of it), as bits.");
        int[] due = {0, 0, 1, 2, 0};
        for (int i = 0; i < 5; i++) {
            E.asked(EdgeCellsTest::five, due[i], "under", i);
        }
        E.asked(EdgeCellsTest::stack30, 0, "under", 0);
        E.asked(EdgeCellsTest::stack30, 1, "under", 1);
        E.asked(EdgeCellsTest::stack30, (1 << 29) - 1, "under", 29);
        E.asked(EdgeCellsTest::sideBySide, 0, "under", 2);
        E.asked(EdgeCellsTest::sideBySide, 6, "under", 3);
    }

    private static void overs() {
        E.promise(12, "Those over one HANGING (likewise, behind it), as bits.");
        E.asked(EdgeCellsTest::sideBySide, 0, "over", 0);
        E.asked(EdgeCellsTest::sideBySide, 8, "over", 1);
        int[] due = {4, 8, 0, 0, 0};
        for (int i = 0; i < 5; i++) {
            E.asked(EdgeCellsTest::five, due[i], "over", i);
        }
        E.asked(EdgeCellsTest::stack30, (1 << 30) - 2, "over", 0);
        E.asked(EdgeCellsTest::stack30, 1 << 29, "over", 28);
        E.asked(EdgeCellsTest::stack30, 0, "over", 29);
    }

    private static void noneToBeUnder() {
        int[] none = {-1, 5, 6, 30, 31, 32, Edge.MOST, Edge.LEAST};
        E.promise(11, "NONE: 1.");
        E.refusedFor(EdgeCellsTest::five, 1, none, 0, "under", 0);
        E.refused(EdgeCellsTest::stack30, 1, "under", 30);
        E.refused(EdgeCellsTest::small, 1, "under", 0);
        E.refused(Driven::new, 1, "under", 0);
        E.promise(12, "NONE: 1.");
        E.refusedFor(EdgeCellsTest::five, 1, none, 0, "over", 0);
        E.refused(EdgeCellsTest::stack30, 1, "over", 30);
        E.refused(EdgeCellsTest::small, 1, "over", 0);
        E.refused(Driven::new, 1, "over", 0);
    }

    private static void beneaths() {
        E.promise(13, "The i-th of those at a CELL, the latest first. NONE: 1 (CELL)");
        E.asked(EdgeCellsTest::five, 2, "beneath", 0, 0, 0);
        E.asked(EdgeCellsTest::five, 0, "beneath", 0, 0, 1);
        E.asked(EdgeCellsTest::five, 3, "beneath", 2, 0, 0);
        E.asked(EdgeCellsTest::five, 1, "beneath", 2, 0, 1);
        for (int i : new int[] {0, 1, 28, 29}) {
            E.asked(EdgeCellsTest::stack30, 29 - i, "beneath", 1, 0, i);
        }
        E.refusedFor(EdgeCellsTest::large, 1, NO_WIDE, 0, "beneath", 0, 0, 0);
        E.refusedFor(EdgeCellsTest::large, 1, NO_HIGH, 1, "beneath", 0, 0, 0);
        E.refused(EdgeCellsTest::large, 1, "beneath", 8, 0, -1);
        E.refused(EdgeCellsTest::large, 1, "beneath", 0, 4, 99);
        E.refused(Driven::new, 1, "beneath", 0, 0, 0);
    }

    private static void fewerBeneath() {
        E.promise(13, "6 (there are fewer)");
        int[] more = {2, 3, 30, Edge.MOST, -1, Edge.LEAST};
        E.refusedFor(EdgeCellsTest::five, 6, more, 2, "beneath", 0, 0, 0);
        E.refusedFor(EdgeCellsTest::five, 6, more, 2, "beneath", 4, 0, 0);
        E.refused(EdgeCellsTest::five, 6, "beneath", 4, 0, 0);
        E.refused(EdgeCellsTest::five, 6, "beneath", 5, 0, 1);
        E.refusedFor(EdgeCellsTest::stack30, 6, new int[] {30, 31, 32}, 2, "beneath", 1, 0, 0);
        E.refused(EdgeCellsTest::small, 6, "beneath", 1, 0, 0);
    }
}
