/** Promises 6 to 30: bills and cells, where a bill may go, acts, words. */
public final class WallTest {
    private static final Check CHECK = new Check();
    private static final int NONE = CoverTwo.NONE;
    /** Row 0: a b . . and row 1: c d . . of the founder's; bills 0 big, 1 dot, 2 rag, 3 end. */
    private static final String SEEN = "wall wide 4 high 2 law 1 seen;bill big plain wide 2 high 2 text abcd"
        + ";bill dot plain wide 1 high 1 text x;bill rag torn wide 2 high 1 text rs"
        + ";bill end last wide 1 high 1 text z;rival one sheets 3;rival two sheets 1;founder big at 0,0";
    /** Row 0: a b . . . and row 1: . . . a b of the founder's; bills 0 p, 1 w, 2 t. */
    private static final String WORDS = "wall wide 5 high 2 law 0 hang;bill p plain wide 2 high 1 text ab"
        + ";bill w wording wide 1 high 1 text a;bill t torn wide 1 high 1 text q;rival r sheets 9;rival s sheets 0"
        + ";word aba;word ab;founder p at 0,0;founder p at 3,1";
    /** One bill can be pasted over itself again and again. */
    private static final String DEEP = "wall wide 2 high 1 law 1 seen;bill f plain wide 2 high 1 text a"
        + ";rival p sheets 20;rival q sheets 20;founder f at 0,0";

    public static void main(String[] args) {
        bills();
        hangs();
        cells();
        overAndUnder();
        lying();
        places();
        tables();
        kinds();
        atMostThirty();
        pastes();
        peels();
        tears();
        scrapes();
        paysDays();
        rivals();
        undoes();
        reads();
        readsByRows();
        makes();
        withoutWall();
        CHECK.end();
    }

    private static void refused(CoverTwo x, String call, long answer, int trouble) {
        CHECK.due(call, answer, NONE);
        CHECK.due(call + ": trouble", x.trouble(), trouble);
    }

    private static void denied(CoverTwo x, String call, boolean answer, int trouble) {
        CHECK.due(call, answer, false);
        CHECK.due(call + ": trouble", x.trouble(), trouble);
    }

    private static void given(CoverTwo x, String call, long answer, long due) {
        CHECK.due(call, answer, due);
        CHECK.due(call + ": trouble", x.trouble(), 0);
    }

    private static void done(CoverTwo x, String call, boolean answer) {
        CHECK.due(call, answer, true);
        CHECK.due(call + ": trouble", x.trouble(), 0);
    }

    private static void bills() {
        CoverTwo x = Check.told(SEEN.replace("bill dot plain", "bill dot wording"));
        int[][] due = {{0, 2, 2, 4}, {2, 1, 1, 1}, {1, 2, 1, 2}, {3, 1, 1, 1}};
        for (int b = 0; b < 4; b++) {
            for (int what = 0; what < 4; what++) {
                given(x, "bill " + b + " " + what, x.bill(b, what), due[b][what]);
            }
        }
        refused(x, "bill 4", x.bill(4, 0), 1);
        refused(x, "bill -1", x.bill(-1, 0), 1);
        refused(x, "bill 0 -1", x.bill(0, -1), 1);
        refused(x, "bill 0 4", x.bill(0, 4), 1);
    }

    private static void hangs() {
        CoverTwo x = Check.told(SEEN);
        given(x, "hanging", x.hanging(), 1);
        done(x, "paste", x.paste(1, 1, 1, 1));
        given(x, "hanging", x.hanging(), 2);
        int[][] due = {{0, 0, 0, -2, 3}, {1, 1, 1, 1, 1}};
        for (int i = 0; i < 2; i++) {
            for (int what = 0; what < 5; what++) {
                given(x, "hung " + i + " " + what, x.hung(i, what), due[i][what]);
            }
        }
        refused(x, "hung 2", x.hung(2, 0), 1);
        refused(x, "hung -1", x.hung(-1, 0), 1);
        refused(x, "hung 0 5", x.hung(0, 5), 1);
        refused(x, "hung 0 -1", x.hung(0, -1), 1);
    }

    private static void cells() {
        CoverTwo x = Check.told(SEEN);
        x.paste(1, 1, 0, 0);
        int[][] shows = {{0, 1, -2, -2}, {0, 0, -2, -2}};
        int[][] letters = {{0, 23, -2, -2}, {2, 3, -2, -2}};
        for (int j = 0; j < 2; j++) {
            for (int i = 0; i < 4; i++) {
                given(x, "shows " + i + " " + j, x.shows(i, j), shows[j][i]);
                given(x, "letter " + i + " " + j, x.letter(i, j), letters[j][i]);
            }
        }
        int[][] beyond = {{4, 0}, {-1, 0}, {0, 2}, {0, -1}, {Integer.MAX_VALUE, 0}, {0, Integer.MIN_VALUE}};
        for (int[] at : beyond) {
            refused(x, "shows beyond", x.shows(at[0], at[1]), 1);
            refused(x, "letter beyond", x.letter(at[0], at[1]), 1);
            refused(x, "beneath beyond", x.beneath(at[0], at[1], 0), 1);
        }
        CoverTwo y = Check.told("wall wide 5 high 2 law 0 seen;bill p plain wide 3 high 2 text abcd;founder p at 2,0");
        int[] due = {0, 1, 2, 3, 0, 1};
        for (int i = 0; i < 6; i++) {
            given(y, "letter by the text's letters, again from its first", y.letter(2 + i % 3, i / 3), due[i]);
        }
    }

    private static void overAndUnder() {
        CoverTwo x = Check.told(SEEN);
        x.paste(1, 1, 0, 0);
        x.paste(2, 0, 0, 0);
        x.paste(1, 1, 1, 0);
        int[] under = {0, 1, 3, 1};
        int[] over = {14, 4, 0, 0};
        for (int i = 0; i < 4; i++) {
            given(x, "under " + i, x.under(i), under[i]);
            given(x, "over " + i, x.over(i), over[i]);
        }
        refused(x, "under 4", x.under(4), 1);
        refused(x, "under -1", x.under(-1), 1);
        refused(x, "over 4", x.over(4), 1);
        refused(x, "over -1", x.over(-1), 1);
        given(x, "beneath", x.beneath(1, 0, 0), 2);
        given(x, "beneath", x.beneath(1, 0, 1), 1);
        given(x, "beneath", x.beneath(1, 0, 2), 0);
        refused(x, "beneath, fewer", x.beneath(1, 0, 3), 6);
        refused(x, "beneath, none", x.beneath(3, 1, 0), 6);
        refused(x, "beneath, -1", x.beneath(1, 0, -1), 6);
    }

    private static void lying() {
        CoverTwo x = Check.told(SEEN);
        given(x, "on", x.on(0, 1, 0), 1);
        given(x, "on", x.on(0, 2, 0), 0);
        given(x, "may", x.may(0, 1, 0), 1);
        given(x, "may", x.may(0, 2, 0), 0);
        refused(x, "on, no bill", x.on(4, 0, 0), 1);
        refused(x, "may, no bill", x.may(-1, 0, 0), 1);
        int[][] beyond = {{3, 0}, {0, 1}, {-1, 0}, {0, -1}, {Integer.MAX_VALUE, 0}, {0, Integer.MAX_VALUE}};
        for (int[] at : beyond) {
            refused(x, "on beyond", x.on(0, at[0], at[1]), 2);
            refused(x, "may beyond", x.may(0, at[0], at[1]), 2);
        }
        CoverTwo seen = Check.told(SEEN.replace("founder big at 0,0", "founder dot at 0,0;founder big at 0,0"));
        CoverTwo hang = Check.told(SEEN.replace("seen", "hang").replace("founder big at 0,0",
            "founder dot at 0,0;founder big at 0,0"));
        given(seen, "on those that are seen", seen.on(1, 0, 0), 1);
        given(hang, "on those that hang", hang.on(1, 0, 0), 2);
        given(seen, "may, seen", seen.may(1, 0, 0), 1);
        given(hang, "may, hang", hang.may(1, 0, 0), 0);
        given(hang, "may, torn on two that hang", hang.may(2, 0, 0), 1);
        given(seen, "may, torn on one that is seen", seen.may(2, 0, 0), 0);
    }

    private static void places() {
        CoverTwo x = Check.told(SEEN);
        int[] due = {2, 4, 0, 4};
        int[] dots = {0, 1, 4, 5};
        for (int i = 0; i < 4; i++) {
            given(x, "places", x.places(i), due[i]);
            given(x, "place", x.place(1, i), dots[i]);
        }
        given(x, "place", x.place(0, 1), 1);
        refused(x, "place, no such", x.place(0, 2), 1);
        refused(x, "place, -1", x.place(0, -1), 1);
        refused(x, "place, none", x.place(2, 0), 1);
        refused(x, "place, no bill", x.place(4, 0), 1);
        refused(x, "places, no bill", x.places(4), 1);
        refused(x, "places, no bill", x.places(-1), 1);
        given(x, "full", x.full(), 0);
        x.paste(3, 0, 0, 0);
        given(x, "full behind a last one", x.full(), 1);
        given(x, "places behind a last one", x.places(1), 0);
    }

    private static void tables() {
        CoverTwo x = Check.told(SEEN);
        given(x, "table", x.table(0, 0, true), 1);
        given(x, "table", x.table(0, 1, true), 2);
        given(x, "table, torn is as plain", x.table(2, 1, false), 4);
        given(x, "table, torn is as plain", x.table(2, 0, false), 2);
        given(x, "table", x.table(0, 5, false), 0);
        x.paste(1, 0, 0, 0);
        given(x, "table, hang", x.table(1, 2, true), 1);
        given(x, "table, seen", x.table(1, 2, false), 0);
        given(x, "table, seen", x.table(0, 2, false), 1);
        refused(x, "table 6", x.table(0, 6, true), 2);
        refused(x, "table -1", x.table(0, -1, true), 2);
        refused(x, "table, no bill", x.table(4, 6, true), 1);
        x.paste(3, 1, 0, 0);
        given(x, "table behind a last one", x.table(0, 1, true), 0);
        CoverTwo y = Check.told(WORDS);
        given(y, "table, wording", y.table(1, 0, true), 1);
        given(y, "table, wording, on one", y.table(1, 1, true), 0);
    }

    private static void kinds() {
        CoverTwo x = Check.told(SEEN);
        given(x, "torn on one", x.may(2, 0, 0), 0);
        x.paste(1, 1, 0, 0);
        given(x, "torn on two", x.may(2, 0, 0), 1);
        given(x, "torn on one", x.may(2, 1, 0), 0);
        given(x, "plain on two", x.may(0, 0, 0), 0);
        CoverTwo y = Check.told(SEEN);
        y.paste(3, 0, 0, 0);
        given(y, "behind a last one", y.may(1, 1, 0), 0);
        denied(y, "behind a last one", y.paste(1, 1, 0, 0), 5);
        y.tear(1);
        given(y, "when the last one is gone", y.may(1, 1, 0), 1);
        CoverTwo z = Check.told(SEEN.replace("founder big at 0,0", "founder end at 0,0"));
        given(z, "a founder's last one", z.full(), 1);
        CoverTwo w = Check.told(WORDS);
        given(w, "wording where a word is made", w.may(1, 2, 0), 1);
        given(w, "wording where none is", w.may(1, 3, 0), 0);
        given(w, "wording may lie on so many all the same", w.on(1, 3, 0), 0);
        CoverTwo v = Check.told("wall wide 4 high 1 law 1 seen;bill p plain wide 4 high 1 text abab"
            + ";bill w wording wide 2 high 1 text ab;rival r sheets 1;word ab;word bab;founder p at 0,0");
        given(v, "a word that is read as often", v.may(1, 0, 0), 0);
        given(v, "a word that is read less often", v.may(1, 1, 0), 0);
    }

    private static void atMostThirty() {
        CoverTwo x = Check.told(DEEP);
        for (int i = 0; i < 28; i++) {
            done(x, "paste", x.paste(0, 0, 0, i % 2));
        }
        given(x, "hanging", x.hanging(), 29);
        given(x, "full with 29", x.full(), 0);
        done(x, "the thirtieth", x.paste(0, 0, 0, 0));
        given(x, "full with 30", x.full(), 1);
        given(x, "may with 30", x.may(0, 0, 0), 0);
        given(x, "table with 30", x.table(0, 1, false), 0);
        denied(x, "paste with 30", x.paste(0, 0, 0, 0), 5);
        given(x, "under 29", x.under(29), (1 << 29) - 1);
        given(x, "over 0", x.over(0), (1 << 30) - 2);
        given(x, "beneath", x.beneath(1, 0, 29), 0);
        done(x, "peel", x.peel());
        given(x, "full with 29 again", x.full(), 0);
    }

    private static void pastes() {
        CoverTwo x = Check.told(SEEN);
        denied(x, "no bill", x.paste(4, 0, 0, 0), 1);
        denied(x, "no rival", x.paste(1, 9, 0, 2), 1);
        denied(x, "no rival", x.paste(1, 0, 0, -1), 1);
        denied(x, "beyond", x.paste(0, 3, 0, 0), 2);
        denied(x, "may not", x.paste(1, 3, 0, 0), 5);
        CHECK.due("no act yet", x.size(8), 0);
        done(x, "paste", x.paste(1, 0, 0, 1));
        given(x, "sheets", x.rival(1, 0), 0);
        denied(x, "no sheets", x.paste(1, 3, 0, 1), 6);
        denied(x, "beyond, no sheets", x.paste(1, 4, 0, 1), 2);
        given(x, "hanging", x.hanging(), 2);
        CHECK.due("an act", x.size(8), 1);
    }

    private static void peels() {
        CoverTwo x = Check.told(SEEN);
        denied(x, "only the founder's", x.peel(), 6);
        x.paste(1, 0, 0, 0);
        x.paste(1, 1, 0, 0);
        done(x, "peel", x.peel());
        given(x, "hanging", x.hanging(), 2);
        given(x, "the latest is gone", x.shows(1, 0), 0);
        given(x, "sheets don't come back", x.rival(0, 0), 1);
        done(x, "peel", x.peel());
        denied(x, "only the founder's", x.peel(), 6);
        CHECK.due("acts", x.size(8), 4);
    }

    private static void tears() {
        CoverTwo x = Check.told(SEEN);
        x.paste(1, 0, 0, 0);
        x.paste(1, 1, 0, 1);
        denied(x, "none such", x.tear(3), 1);
        denied(x, "none such", x.tear(-1), 1);
        denied(x, "the founder's", x.tear(0), 5);
        done(x, "tear", x.tear(1));
        given(x, "hanging", x.hanging(), 2);
        given(x, "numbers one less", x.shows(1, 0), 1);
        given(x, "whose", x.hung(1, 3), 1);
        given(x, "seen again", x.shows(0, 0), 0);
        given(x, "seen again", x.hung(0, 4), 3);
        given(x, "sheets don't come back", x.rival(0, 0), 2);
        done(x, "tear the latest", x.tear(1));
        given(x, "hanging", x.hanging(), 1);
    }

    private static void scrapes() {
        CoverTwo x = Check.told(SEEN);
        done(x, "scrape, nothing to", x.scrape());
        CHECK.due("an act all the same", x.size(8), 1);
        x.paste(1, 0, 0, 0);
        x.paste(3, 1, 0, 0);
        done(x, "scrape", x.scrape());
        given(x, "hanging", x.hanging(), 1);
        given(x, "sheets don't come back", x.rival(0, 0), 1);
        given(x, "the last one is gone too", x.full(), 0);
    }

    private static void paysDays() {
        CoverTwo x = Check.told(SEEN);
        given(x, "days, nothing of rivals", x.days(1), 0);
        x.paste(1, 0, 0, 0);
        x.paste(2, 0, 0, 0);
        x.paste(1, 1, 1, 1);
        given(x, "days", x.days(30), 3);
        given(x, "paid", x.rival(0, 2), 60);
        given(x, "paid", x.rival(1, 2), 30);
        given(x, "days", x.days(1), 3);
        given(x, "paid", x.rival(0, 2), 62);
        refused(x, "days 0", x.days(0), 2);
        refused(x, "days 31", x.days(31), 2);
        refused(x, "days -1", x.days(-1), 2);
        given(x, "paid as before", x.rival(0, 2), 62);
        CHECK.due("acts", x.size(8), 6);
    }

    private static void rivals() {
        CoverTwo x = Check.told(SEEN);
        x.paste(1, 0, 0, 0);
        x.paste(1, 1, 0, 0);
        given(x, "sheets", x.rival(0, 0), 1);
        given(x, "seen cells of all", x.rival(0, 1), 2);
        given(x, "paid", x.rival(0, 2), 0);
        given(x, "the other one's", x.rival(1, 1), 0);
        refused(x, "none such", x.rival(2, 0), 1);
        refused(x, "none such", x.rival(-1, 0), 1);
        refused(x, "none such", x.rival(0, 3), 1);
        refused(x, "none such", x.rival(0, -1), 1);
    }

    private static void undoes() {
        CoverTwo x = Check.told(SEEN);
        denied(x, "nothing to undo", x.undo(), 6);
        x.paste(1, 0, 0, 0);
        x.days(5);
        x.peel();
        x.scrape();
        done(x, "undo scrape", x.undo());
        given(x, "hanging", x.hanging(), 1);
        done(x, "undo peel", x.undo());
        given(x, "hanging", x.hanging(), 2);
        given(x, "whose", x.hung(1, 3), 0);
        given(x, "paid", x.rival(0, 2), 5);
        done(x, "undo days", x.undo());
        given(x, "not paid", x.rival(0, 2), 0);
        done(x, "undo paste", x.undo());
        given(x, "hanging", x.hanging(), 1);
        given(x, "sheets", x.rival(0, 0), 3);
        denied(x, "nothing more", x.undo(), 6);
        CoverTwo y = Check.told(DEEP);
        for (int i = 0; i < 15; i++) {
            y.paste(0, 0, 0, 0);
        }
        CHECK.due("twelve are kept", y.size(8), 12);
        for (int i = 0; i < 12; i++) {
            done(y, "undo", y.undo());
        }
        denied(y, "nothing more", y.undo(), 6);
        given(y, "hanging", y.hanging(), 4);
        given(y, "sheets", y.rival(0, 0), 17);
        for (int i = 0; i < 40; i++) {
            y.days(1 + i % 2);
        }
        for (int i = 39; i >= 28; i--) {
            done(y, "undo days", y.undo());
            given(y, "paid behind " + i + " acts", y.rival(0, 2), 2 * (i + i / 2));
        }
        denied(y, "nothing more", y.undo(), 6);
        y.paste(0, 0, 0, 1);
        y.tear(1);
        done(y, "undo tear", y.undo());
        given(y, "hanging", y.hanging(), 5);
        given(y, "whose", y.hung(4, 3), 1);
    }

    private static void reads() {
        CoverTwo x = Check.told(WORDS);
        given(x, "reads ab", x.reads(1), 2);
        given(x, "from", x.readAt(1), 0);
        given(x, "by", x.readBy(1, 1), 0);
        given(x, "reads aba", x.reads(0), 0);
        given(x, "from", x.readAt(0), -2);
        refused(x, "isn't read", x.readBy(0, 0), 6);
        refused(x, "no such letter", x.readBy(0, 3), 1);
        refused(x, "no such letter", x.readBy(1, -1), 1);
        refused(x, "no such word", x.readBy(2, 0), 1);
        refused(x, "no such word", x.reads(2), 1);
        refused(x, "no such word", x.reads(-1), 1);
        refused(x, "no such word", x.readAt(2), 1);
        refused(x, "no such word", x.readAt(-1), 1);
        done(x, "paste", x.paste(1, 2, 0, 0));
        given(x, "reads aba", x.reads(0), 1);
        given(x, "from", x.readAt(0), 0);
        given(x, "by the founder's", x.readBy(0, 1), 0);
        given(x, "by the rival's", x.readBy(0, 2), 2);
        done(x, "paste", x.paste(2, 0, 0, 0));
        given(x, "reads ab", x.reads(1), 1);
        given(x, "from", x.readAt(1), 8);
        given(x, "by", x.readBy(1, 0), 1);
    }

    private static void readsByRows() {
        CoverTwo x = Check.told("wall wide 5 high 1 law 0 seen;bill p plain wide 5 high 1 text ab;word aba;word a"
            + ";word ababab;founder p at 0,0");
        given(x, "words that overlap", x.reads(0), 2);
        given(x, "letters", x.reads(1), 3);
        given(x, "longer than the wall is wide", x.reads(2), 0);
        CoverTwo y = Check.told("wall wide 2 high 2 law 0 seen;bill p plain wide 2 high 2 text abcd;word bc;word cd"
            + ";word db;word ac;founder p at 0,0");
        given(y, "not from row to row", y.reads(0), 0);
        given(y, "in a row", y.readAt(1), 2);
        given(y, "not from right to left", y.reads(2), 0);
        given(y, "not downwards", y.reads(3), 0);
        CoverTwo z = Check.told("wall wide 3 high 1 law 0 seen;bill p plain wide 1 high 1 text a;word aa"
            + ";founder p at 0,0;founder p at 2,0");
        given(z, "not over a cell that shows nothing", z.reads(0), 0);
    }

    private static void makes() {
        CoverTwo x = Check.told(WORDS);
        given(x, "makes, plain", x.makes(0), 4);
        given(x, "makes, wording", x.makes(1), 1);
        given(x, "its place", x.place(1, 0), 2);
        given(x, "makes, torn", x.makes(2), 0);
        given(x, "places, torn", x.places(2), 4);
        refused(x, "makes, no bill", x.makes(3), 1);
        refused(x, "makes, no bill", x.makes(-1), 1);
    }

    private static void withoutWall() {
        CoverTwo x = new CoverTwo();
        refused(x, "bill", x.bill(0, 0), 1);
        refused(x, "hung", x.hung(0, 0), 1);
        refused(x, "shows", x.shows(0, 0), 1);
        refused(x, "letter", x.letter(0, 0), 1);
        refused(x, "under", x.under(0), 1);
        refused(x, "over", x.over(0), 1);
        refused(x, "beneath", x.beneath(0, 0, 0), 1);
        refused(x, "on", x.on(0, 0, 0), 1);
        refused(x, "may", x.may(0, 0, 0), 1);
        refused(x, "places", x.places(0), 1);
        refused(x, "place", x.place(0, 0), 1);
        refused(x, "full", x.full(), 1);
        refused(x, "table", x.table(0, 9, true), 1);
        denied(x, "paste", x.paste(0, 0, 0, 0), 1);
        denied(x, "peel", x.peel(), 6);
        denied(x, "tear", x.tear(0), 1);
        denied(x, "scrape", x.scrape(), 1);
        refused(x, "days", x.days(0), 1);
        refused(x, "rival", x.rival(0, 0), 1);
        denied(x, "undo", x.undo(), 6);
        refused(x, "reads", x.reads(0), 1);
        refused(x, "readAt", x.readAt(0), 1);
        refused(x, "readBy", x.readBy(0, 0), 1);
        refused(x, "makes", x.makes(0), 1);
    }
}
