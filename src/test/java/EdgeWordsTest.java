/** Promises 27 to 30 at their edges, with what Terms II says of reading. */
public final class EdgeWordsTest {
    private static final Edge E = new Edge();
    private static final int[] NO_WORD = {-1, 3, 4, 6, Edge.MOST, Edge.LEAST};

    public static void main(String[] args) {
        asLongAsTheRow();
        fromLeftToRight();
        cellByCell();
        inAllCellsThatShow();
        howOften();
        readsRefused();
        firstCell();
        readAtRefused();
        whoseLetter();
        noSuchLetter();
        isntRead();
        makesSome();
        makesRefused();
        E.end(27, 30);
    }

    /** A wall whose rows show these letters, a cell of them each; a dot is a cell that shows nothing. */
    private static Driven rows(String words, String... rows) {
        StringBuilder founders = new StringBuilder();
        StringBuilder bills = new StringBuilder();
        int many = 0;
        for (int y = 0; y < rows.length; y++) {
            for (String run : rows[y].split("\\.+")) {
                if (!run.isEmpty()) {
                    char name = (char) ('q' + many++);
                    bills.append(";bill " + name + " plain wide " + run.length() + " high 1 text " + run);
                    founders.append(";founder " + name + " at " + rows[y].indexOf(run) + "," + y);
                }
            }
        }
        String wall = "wall wide " + rows[0].length() + " high " + rows.length + " law 1 seen";
        return Driven.of(wall + bills + words + founders);
    }

    /** Row 0: a b a b . and row 1: . . a b c; bills 0 x of one letter, 1 y of two, 2 z; words ab, bab, zz. */
    private static Driven told() {
        return Driven.of("wall wide 5 high 2 law 0 seen;bill x plain wide 1 high 1 text c"
            + ";bill y plain wide 2 high 1 text ab"
            + ";bill z torn wide 1 high 1 text z;bill w wording wide 1 high 1 text b;rival r sheets 9"
            + ";word ab;word bab;word zz;founder y at 0,0;founder y at 2,0;founder y at 2,1;founder x at 4,1");
    }

    private static void asLongAsTheRow() {
        E.term("READ: of a word, how often its letters stand in a row of the wall");
        String row = "abcdefgh";
        for (int wide = 2; wide <= 8; wide++) {
            String words = "";
            for (int length = wide - 1; length <= Math.min(wide + 1, 8); length++) {
                words += ";word " + row.substring(0, length);
            }
            Driven x = rows(words, row.substring(0, wide));
            E.is(x, 1, "reads", 0);
            E.is(x, 1, "reads", 1);
            if (wide < 8) {
                E.is(x, 0, "reads", 2);
                E.is(x, -2, "readAt", 2);
            }
        }
        E.is(rows(";word abcdefgh", "abcdefgx"), 0, "reads", 0);
        Driven other = rows(";word aaaaa;word aaaaaaaa", "bbbbbbbb");
        for (int w = 0; w < 2; w++) {
            E.is(other, 0, "reads", w);
            E.is(other, -2, "readAt", w);
        }
        E.is(rows(";word abcdefgh", "xbcdefgh"), 0, "reads", 0);
    }

    private static void fromLeftToRight() {
        E.term("from left to right");
        Driven x = rows(";word ab;word ba;word ac;word bc;word cd;word da", "ab", "cd");
        int[] due = {1, 0, 0, 0, 1, 0};
        for (int w = 0; w < 6; w++) {
            E.is(x, due[w], "reads", w);
        }
    }

    private static void cellByCell() {
        E.term("CELL by CELL");
        Driven x = rows(";word ac;word ab;word abc", "abc");
        E.is(x, 0, "reads", 0);
        E.is(x, 1, "reads", 1);
        E.is(x, 1, "reads", 2);
        Driven split = rows(";word ab;word a;word b", "a.b");
        E.is(split, 0, "reads", 0);
        E.is(split, 1, "reads", 1);
        E.is(split, 1, "reads", 2);
        E.is(rows(";word ab", "ab."), 1, "reads", 0);
        E.is(rows(";word ab", ".ab"), 1, "reads", 0);
    }

    private static void inAllCellsThatShow() {
        E.term("in all CELLS that SHOW something.");
        Driven x = rows(";word a;word aa;word aaa;word aaaa;word aaaaa", "aaaa", "aaaa", "aaaa", "aaaa");
        int[] due = {16, 12, 8, 4, 0};
        for (int w = 0; w < 5; w++) {
            E.is(x, due[w], "reads", w);
        }
        Driven large = rows(";word a;word aaaaaaaa", "aaaaaaaa", "aaaaaaaa", "aaaaaaaa", "aaaaaaaa");
        E.is(large, 32, "reads", 0);
        E.is(large, 4, "reads", 1);
        Driven none = Driven.of("wall wide 8 high 4 law 0 seen;bill a plain wide 1 high 1 text a;word a");
        E.is(none, 0, "reads", 0);
    }

    private static void howOften() {
        E.promise(27, "How often a word is READ.");
        int[] due = {3, 1, 0};
        for (int w = 0; w < 3; w++) {
            E.asked(EdgeWordsTest::told, due[w], "reads", w);
        }
        Driven x = told();
        x.act("paste", 2, 3, 0, 0);
        E.is(x, 2, "reads", 0);
        E.is(x, 0, "reads", 1);
        x.act("paste", 2, 2, 0, 0);
        E.is(x, 2, "reads", 0);
        E.is(x, 1, "reads", 2);
        x.act("undo").act("undo");
        E.is(x, 3, "reads", 0);
        E.is(x, 0, "reads", 2);
    }

    private static void readsRefused() {
        E.promise(27, "NONE: 1.");
        E.refusedFor(EdgeWordsTest::told, 1, NO_WORD, 0, "reads", 0);
        Driven six = rows(";word a;word b;word c;word d;word e;word f", "abcdef");
        E.is(six, 1, "reads", 5);
        E.no(six, 1, "reads", 6);
        E.refused(() -> rows("", "ab"), 1, "reads", 0);
        E.refused(Driven::new, 1, "reads", 0);
    }

    private static void firstCell() {
        E.promise(28, "The first CELL, by numbers, from which it is; -2 none.");
        E.asked(EdgeWordsTest::told, 0, "readAt", 0);
        E.asked(EdgeWordsTest::told, 1, "readAt", 1);
        E.asked(EdgeWordsTest::told, -2, "readAt", 2);
        Driven x = told();
        x.act("paste", 2, 0, 0, 0);
        E.is(x, 2, "readAt", 0);
        x.act("paste", 2, 2, 0, 0);
        E.is(x, 7, "readAt", 0);
        x.act("paste", 2, 2, 1, 0);
        E.is(x, -2, "readAt", 0);
        Driven corner = Driven.of("wall wide 8 high 4 law 0 seen;bill a plain wide 1 high 1 text a"
            + ";bill b plain wide 2 high 1 text b"
            + ";word a;word b;founder a at 7,3;founder b at 6,0");
        E.is(corner, 31, "readAt", 0);
        E.is(corner, 6, "readAt", 1);
        Driven unread = rows(";word a;word aaaa;word b", "aaaa", "aaaa", "aaaa", "aaax");
        E.is(unread, -2, "readAt", 2);
        E.is(unread, 0, "reads", 2);
        Driven rows = rows(";word b;word ab", "xa", "bx", "ab");
        E.is(rows, 2, "readAt", 0);
        E.is(rows, 4, "readAt", 1);
    }

    private static void readAtRefused() {
        E.promise(28, "NONE: 1.");
        E.refusedFor(EdgeWordsTest::told, 1, NO_WORD, 0, "readAt", 0);
        E.refused(() -> rows("", "ab"), 1, "readAt", 0);
        E.refused(Driven::new, 1, "readAt", 0);
    }

    private static void whoseLetter() {
        E.promise(29, "Whose bill SHOWS its i-th letter there: which one HANGING.");
        E.asked(EdgeWordsTest::told, 0, "readBy", 0, 0);
        E.asked(EdgeWordsTest::told, 0, "readBy", 0, 1);
        int[] due = {0, 1, 1};
        for (int i = 0; i < 3; i++) {
            E.asked(EdgeWordsTest::told, due[i], "readBy", 1, i);
        }
        Driven eight = rows(";word abcdefgh", "xxxxxxxx", "abcdefgh");
        E.is(eight, 1, "readBy", 0, 0);
        E.is(eight, 1, "readBy", 0, 7);
        Driven across = Driven.of("wall wide 3 high 1 law 0 seen;bill a plain wide 1 high 1 text a"
            + ";bill b plain wide 1 high 1 text b"
            + ";rival r sheets 3;word abb;founder b at 2,0").act("paste", 0, 0, 0, 0).act("paste", 1, 1, 0, 0);
        int[] by = {1, 2, 0};
        for (int i = 0; i < 3; i++) {
            E.is(across, by[i], "readBy", 0, i);
        }
    }

    private static void noSuchLetter() {
        E.promise(29, "NONE: 1 (word, i)");
        E.refusedFor(EdgeWordsTest::told, 1, NO_WORD, 0, "readBy", 0, 0);
        E.refusedFor(EdgeWordsTest::told, 1, new int[] {-1, 2, 3, 8, Edge.MOST, Edge.LEAST}, 1, "readBy", 0, 0);
        E.refusedFor(EdgeWordsTest::told, 1, new int[] {-1, 3, 4, 8, Edge.MOST, Edge.LEAST}, 1, "readBy", 1, 0);
        E.refusedFor(EdgeWordsTest::told, 1, new int[] {-1, 2, 3}, 1, "readBy", 2, 0);
        Driven eight = rows(";word abcdefgh", "abcdefgh");
        E.no(eight, 1, "readBy", 0, 8);
        E.refused(Driven::new, 1, "readBy", 0, 0);
    }

    private static void isntRead() {
        E.promise(29, "6 (it isn't READ).");
        E.refused(EdgeWordsTest::told, 6, "readBy", 2, 0);
        E.refused(EdgeWordsTest::told, 6, "readBy", 2, 1);
        Driven longer = rows(";word abc", "ab");
        E.no(longer, 6, "readBy", 0, 2);
        E.no(longer, 1, "readBy", 0, 3);
        Driven gone = rows(";word ab", "xab");
        E.is(gone, 0, "readBy", 0, 0);
    }

    private static void makesSome() {
        E.promise(30, "At how many places where a bill MAY go some word would be READ more often.");
        String text = "wall wide 4 high 1 law 0 seen;bill d plain wide 1 high 1 text a;bill t torn wide 1 high 1 text b"
            + ";bill w wording wide 1 high 1 text a;bill z last wide 2 high 1 text ab;founder d at 1,0";
        int[][] due = {{0, 0, 0, 0}, {3, 0, 3, 1}, {2, 0, 2, 1}, {0, 0, 0, 1}, {0, 1, 0, 1}};
        String[] words = {"", ";word a", ";word aa", ";word ab", ";word b"};
        for (int i = 0; i < words.length; i++) {
            String with = text + words[i];
            for (int b = 0; b < 4; b++) {
                E.asked(() -> Driven.of(with), due[i][b], "makes", b);
            }
        }
        E.asked(() -> Driven.of(text + ";word a;founder z at 2,0"), 0, "makes", 0);
        E.asked(() -> Driven.of("wall wide 8 high 4 law 0 seen;bill d plain wide 1 high 1 text a;word a"), 32, "makes", 0);
        E.asked(EdgeWordsTest::told, 1, "makes", 3);
        E.asked(EdgeWordsTest::told, 0, "makes", 0);
        E.asked(() -> heap(28), 1, "makes", 1);
        E.asked(() -> heap(29), 0, "makes", 1);
    }

    /** So many pasted on the founder's one, in the same cells; bill 1 would make a word. */
    private static Driven heap(int pasted) {
        Driven x = Driven.of("wall wide 2 high 1 law 1 seen;bill a plain wide 2 high 1 text a"
            + ";bill b plain wide 2 high 1 text b"
            + ";rival p sheets 20;rival q sheets 20;word bb;founder a at 0,0");
        for (int i = 0; i < pasted; i++) {
            x.act("paste", 0, 0, 0, i % 2);
        }
        return x;
    }

    private static void makesRefused() {
        E.promise(30, "NONE: 1.");
        E.refusedFor(EdgeWordsTest::told, 1, new int[] {-1, 4, 5, Edge.MOST, Edge.LEAST}, 0, "makes", 0);
        E.refused(Driven::new, 1, "makes", 0);
    }
}
