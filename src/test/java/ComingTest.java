import java.util.NoSuchElementException;

/** Promises 31 to 44: what comes, marks, what isn't seen, sizes, trouble. */
public final class ComingTest {
    private static final Check CHECK = new Check();
    private static final int NONE = CoverTwo.NONE;
    /** Three free cells; bills 0 d of one cell, 1 e of two; nothing may lie on anything. */
    private static final String THREE = "wall wide 3 high 1 law 0 hang;bill d plain wide 1 high 1 text a"
        + ";bill e plain wide 2 high 1 text b;rival r sheets 1;rival s sheets 20;rival q sheets 0";
    /** One bill can be pasted over itself again and again. */
    private static final String DEEP = "wall wide 2 high 1 law 1 seen;bill f plain wide 2 high 1 text a"
        + ";rival p sheets 20;rival q sheets 20;founder f at 0,0";
    /** 128 places for the first, 124 for each next one: 16,000 rows of up to two. */
    private static final String WIDE = "wall wide 8 high 4 law 0 seen;bill a plain wide 1 high 1 text a"
        + ";bill b plain wide 1 high 1 text b;bill c plain wide 1 high 1 text c;bill d plain wide 1 high 1 text d"
        + ";rival p sheets 2;rival q sheets 3;rival r sheets 0";

    public static void main(String[] args) {
        stays();
        best();
        rows();
        wins();
        tooManyRows();
        justEnoughRows();
        closes();
        lives();
        orders();
        ordersByLaw();
        aheads();
        marks();
        leds();
        sizes();
        troubles();
        withoutWall();
        CHECK.end();
    }

    private static void refused(CoverTwo x, String call, long answer, int trouble) {
        CHECK.due(call, answer, NONE);
        CHECK.due(call + ": trouble", x.trouble(), trouble);
    }

    private static void given(CoverTwo x, String call, long answer, long due) {
        CHECK.due(call, answer, due);
        CHECK.due(call + ": trouble", x.trouble(), 0);
    }

    private static void stays() {
        CoverTwo x = Check.told("wall wide 4 high 1 law 0 seen;bill a plain wide 2 high 1 text a"
            + ";bill t torn wide 1 high 1 text b;bill l last wide 3 high 1 text c");
        given(x, "stays, one of two can be covered", x.stays(0, 0, 0), 1);
        given(x, "stays of a last one, as it is pasted", x.stays(2, 1, 0), 3);
        refused(x, "stays, torn may not go there", x.stays(1, 0, 0), 5);
        refused(x, "stays, no bill", x.stays(3, 0, 0), 1);
        refused(x, "stays, no bill", x.stays(-1, 0, 0), 1);
        refused(x, "stays, beyond", x.stays(0, 3, 0), 2);
        refused(x, "stays, beyond", x.stays(0, 0, 1), 2);
        given(x, "nothing was pasted", x.hanging(), 0);
        CoverTwo deep = Check.told(DEEP);
        given(deep, "stays, all can be covered", deep.stays(0, 0, 0), 0);
        CoverTwo three = Check.told(THREE);
        given(three, "stays, none can be covered", three.stays(1, 1, 0), 2);
    }

    private static void best() {
        CoverTwo x = Check.told("wall wide 5 high 1 law 0 hang;bill d plain wide 1 high 1 text a"
            + ";bill t torn wide 2 high 1 text b;bill w wording wide 1 high 1 text z;rival r sheets 1"
            + ";founder d at 2,0;founder d at 4,0");
        given(x, "stays", x.stays(0, 0, 0), 0);
        given(x, "stays", x.stays(0, 1, 0), 0);
        given(x, "stays", x.stays(0, 3, 0), 1);
        given(x, "best", x.best(0), 3);
        refused(x, "best, may go nowhere", x.best(2), 6);
        refused(x, "best, no bill", x.best(3), 1);
        refused(x, "best, no bill", x.best(-1), 1);
        CoverTwo three = Check.told(THREE);
        given(three, "best, the first of equals", three.best(0), 0);
        CoverTwo deep = Check.told(DEEP);
        given(deep, "best, though nothing stays", deep.best(0), 0);
    }

    private static void rows() {
        CoverTwo x = Check.told(THREE);
        int[] far = {1, 2, 3, 3};
        int[] shortest = {-2, 2, 2, 2};
        for (int d = 1; d <= 4; d++) {
            given(x, "far " + d, x.far(d), far[d - 1]);
            given(x, "shortest " + d, x.shortest(d), shortest[d - 1]);
        }
        x.paste(1, 0, 0, 0);
        given(x, "shortest", x.shortest(1), 1);
        x.paste(0, 2, 0, 1);
        given(x, "far, full", x.far(4), 0);
        given(x, "shortest, full", x.shortest(1), 0);
        for (int d : new int[] {0, 5, -1, Integer.MAX_VALUE, Integer.MIN_VALUE}) {
            refused(x, "far " + d, x.far(d), 2);
            refused(x, "shortest " + d, x.shortest(d), 2);
            refused(x, "wins " + d, x.wins(d), 2);
        }
        CoverTwo y = Check.told(DEEP);
        given(y, "far, whatever the sheets", y.far(4), 4);
        given(y, "shortest, never full so soon", y.shortest(4), -2);
        for (int i = 0; i < 27; i++) {
            y.paste(0, 0, 0, i % 2);
        }
        given(y, "far, up to thirty", y.far(4), 2);
        given(y, "shortest, up to thirty", y.shortest(4), 2);
    }

    private static void wins() {
        CoverTwo x = Check.told(THREE);
        int[] due = {0, 0, 1, 1};
        for (int d = 1; d <= 4; d++) {
            given(x, "wins " + d, x.wins(d), due[d - 1]);
        }
        x.paste(1, 0, 0, 0);
        given(x, "wins by one", x.wins(1), 1);
        x.paste(0, 2, 0, 1);
        given(x, "who can't paste", x.wins(4), 0);
        CoverTwo y = Check.told(THREE);
        y.paste(0, 0, 0, 0);
        given(y, "one pasting of two cells", y.wins(1), 1);
        CoverTwo z = Check.told(THREE.replace("bill e plain wide 2 high 1 text b;", ""));
        z.paste(0, 0, 0, 0);
        given(z, "just two pastings left: the other one's is the last", z.wins(4), 0);
    }

    private static void tooManyRows() {
        CoverTwo x = Check.told(WIDE);
        given(x, "far 2", x.far(2), 2);
        given(x, "shortest 2", x.shortest(2), -2);
        given(x, "wins 2", x.wins(2), 0);
        refused(x, "far 3", x.far(3), 3);
        refused(x, "shortest 3", x.shortest(3), 3);
        refused(x, "wins 4", x.wins(4), 3);
        refused(x, "far 5", x.far(5), 2);
        given(x, "close by two sheets", x.close(0, 4), -2);
        refused(x, "close by three sheets", x.close(1, 3), 3);
        given(x, "close by three sheets, two at most", x.close(1, 2), -2);
        given(x, "close without sheets", x.close(2, 4), -2);
        given(x, "nothing was pasted", x.hanging(), 0);
        given(x, "places as before", x.places(3), 32);
    }

    /** A wall with just 20,000 rows of up to three bills, and one with 20,001 of up to four. */
    private static void justEnoughRows() {
        CoverTwo x = Check.told("wall wide 7 high 2 law 0 seen;bill s plain wide 1 high 1 text a"
            + ";bill t plain wide 1 high 1 text aaaa;bill u wording wide 1 high 1 text bbb"
            + ";rival p sheets 10;rival q sheets 12;word ab;word bab");
        given(x, "20,000 rows", x.far(3), 3);
        given(x, "20,000 rows", x.close(0, 3), -2);
        refused(x, "more", x.far(4), 3);
        CoverTwo y = Check.told("wall wide 6 high 2 law 0 seen;bill s plain wide 1 high 1 text ba"
            + ";bill t last wide 2 high 2 text abab;bill u wording wide 3 high 1 text a"
            + ";bill v wording wide 3 high 1 text a;rival p sheets 15;rival q sheets 14;word ab;word b");
        given(y, "fewer rows of up to three", y.far(3), 3);
        refused(y, "20,001 rows", y.far(4), 3);
        refused(y, "20,001 rows, though one is enough", y.shortest(4), 3);
        refused(y, "20,001 rows", y.close(0, 4), 3);
    }

    private static void closes() {
        CoverTwo x = Check.told(THREE);
        given(x, "close, one at most", x.close(1, 1), -2);
        given(x, "close", x.close(1, 2), 2);
        given(x, "close", x.close(1, 4), 2);
        given(x, "close by one sheet", x.close(0, 4), -2);
        given(x, "close by none", x.close(2, 4), -2);
        refused(x, "close, no rival", x.close(3, 1), 1);
        refused(x, "close, no rival", x.close(-1, 9), 1);
        refused(x, "close 0", x.close(0, 0), 2);
        refused(x, "close 5", x.close(2, 5), 2);
        refused(x, "close -3", x.close(2, -3), 2);
        x.paste(0, 0, 0, 0);
        given(x, "close, another's in between", x.close(1, 4), -2);
        x.scrape();
        x.paste(0, 0, 0, 1);
        given(x, "close, one more", x.close(1, 4), 1);
        x.paste(1, 1, 0, 1);
        given(x, "close, all done", x.close(1, 1), 0);
        CoverTwo y = Check.told(DEEP);
        given(y, "close, over the founder's", y.close(0, 1), 1);
    }

    private static void lives() {
        CoverTwo x = Check.told(THREE);
        given(x, "life", x.life(0, true), 2);
        given(x, "life", x.life(1, true), 0);
        given(x, "nothing was pasted", x.hanging(), 0);
        refused(x, "life 6", x.life(6, true), 2);
        refused(x, "life -1", x.life(-1, false), 2);
        CoverTwo y = Check.told(DEEP);
        given(y, "life up to thirty", y.life(1, false), 29);
        given(y, "life by those that hang", y.life(1, true), 1);
        given(y, "life by those that hang", y.life(2, true), 0);
        CoverTwo z = Check.told("wall wide 3 high 1 law 0 hang;bill t torn wide 1 high 1 text a"
            + ";bill l last wide 1 high 1 text a");
        given(z, "torn as plain, then the last one", z.life(0, true), 2);
    }

    private static void orders() {
        CoverTwo x = Check.told(THREE);
        given(x, "orders of none", x.orders(), 1);
        x.paste(0, 0, 0, 1);
        x.paste(0, 1, 0, 1);
        x.paste(0, 2, 0, 1);
        given(x, "orders of three side by side", x.orders(), 6);
        CoverTwo y = Check.told(DEEP);
        for (int i = 0; i < 7; i++) {
            y.paste(0, 0, 0, 0);
        }
        given(y, "orders of seven, the last one seen", y.orders(), 720);
        given(y, "ahead", y.ahead(1, 2), 360);
        given(y, "ahead of the one that is seen", y.ahead(1, 7), 720);
        given(y, "behind the one that is seen", y.ahead(7, 1), 0);
        y.paste(0, 0, 0, 0);
        refused(y, "orders of eight", y.orders(), 3);
        refused(y, "ahead of eight", y.ahead(1, 2), 3);
        refused(y, "ahead of eight, alike", y.ahead(1, 1), 1);
        refused(y, "ahead of eight, the founder's", y.ahead(0, 1), 5);
        given(y, "all hangs as before", y.hanging(), 9);
    }

    private static void ordersByLaw() {
        CoverTwo x = Check.told("wall wide 4 high 1 law 0 hang;bill d plain wide 1 high 1 text a"
            + ";bill t torn wide 2 high 1 text b;bill l last wide 1 high 1 text c;rival r sheets 20");
        x.paste(0, 0, 0, 0);
        x.paste(1, 0, 0, 0);
        x.paste(0, 2, 0, 0);
        x.paste(2, 3, 0, 0);
        given(x, "the torn one behind what it lies on, the last one last", x.orders(), 3);
        given(x, "ahead", x.ahead(0, 1), 3);
        given(x, "ahead", x.ahead(2, 1), 2);
        given(x, "ahead", x.ahead(2, 3), 3);
        x.tear(0);
        given(x, "as it can't have been stuck up", x.orders(), 0);
        CoverTwo y = Check.told("wall wide 2 high 1 law 0 hang;bill a plain wide 1 high 1 text a"
            + ";bill w wording wide 1 high 1 text b;rival r sheets 20;word ab");
        y.paste(0, 0, 0, 0);
        y.paste(1, 1, 0, 0);
        given(y, "wording behind what makes a word of it", y.orders(), 1);
        given(y, "ahead", y.ahead(0, 1), 1);
    }

    private static void aheads() {
        CoverTwo x = Check.told(DEEP);
        x.paste(0, 0, 0, 0);
        x.paste(0, 0, 0, 1);
        given(x, "ahead", x.ahead(1, 2), 1);
        given(x, "ahead", x.ahead(2, 1), 0);
        refused(x, "alike", x.ahead(2, 2), 1);
        refused(x, "alike, the founder's", x.ahead(0, 0), 1);
        refused(x, "none such", x.ahead(1, 3), 1);
        refused(x, "none such", x.ahead(-1, 1), 1);
        refused(x, "the founder's, none such", x.ahead(0, 3), 1);
        refused(x, "the founder's", x.ahead(0, 2), 5);
        refused(x, "the founder's", x.ahead(2, 0), 5);
    }

    private static void marks() {
        CoverTwo x = Check.told(DEEP);
        x.paste(0, 0, 0, 0);
        x.days(3);
        given(x, "mark", x.mark(), 0);
        CHECK.due("a mark is no act, and leaves them", x.size(8), 2);
        x.paste(0, 0, 0, 1);
        x.days(1);
        given(x, "mark", x.mark(), 1);
        given(x, "mark", x.mark(), 2);
        refused(x, "a fourth mark", x.mark(), 3);
        x.scrape();
        CHECK.due("back", x.back(0), true);
        CHECK.due("back: trouble", x.trouble(), 0);
        given(x, "hanging", x.hanging(), 2);
        given(x, "sheets", x.rival(1, 0), 20);
        given(x, "paid", x.rival(0, 2), 6);
        CHECK.due("nothing can be undone", x.size(8), 0);
        CHECK.due("nothing can be undone", x.undo(), false);
        CHECK.due("all marks stay", x.size(9), 3);
        CHECK.due("back forwards", x.back(1), true);
        given(x, "hanging", x.hanging(), 3);
        given(x, "whose", x.hung(2, 3), 1);
        given(x, "sheets", x.rival(1, 0), 19);
        given(x, "paid", x.rival(1, 2), 2);
        x.peel();
        CHECK.due("back again", x.back(1), true);
        given(x, "hanging again", x.hanging(), 3);
        for (int mark : new int[] {-1, 3, Integer.MAX_VALUE}) {
            CHECK.due("no such mark", x.back(mark), false);
            CHECK.due("no such mark: trouble", x.trouble(), 1);
        }
        x.peel();
        x.back(7);
        CHECK.due("a refused one leaves the acts", x.undo(), true);
    }

    private static boolean throwsAt(CoverTwo x, int i) {
        try {
            x.led(i);
            return false;
        } catch (NoSuchElementException e) {
            return true;
        }
    }

    private static void leds() {
        CoverTwo x = Check.told(DEEP);
        CHECK.due("all are seen", throwsAt(x, 0), true);
        x.paste(0, 0, 0, 0);
        x.paste(0, 0, 0, 0);
        CHECK.due("led 0", x.led(0), 0);
        CHECK.due("led 1", x.led(1), 1);
        CHECK.due("led 2", throwsAt(x, 2), true);
        CHECK.due("led -1", throwsAt(x, -1), true);
        CHECK.due("led without a wall", throwsAt(new CoverTwo(), 0), true);
        CoverTwo y = Check.told("wall wide 2 high 1 law 1 seen;bill f plain wide 1 high 1 text a"
            + ";rival p sheets 20;founder f at 0,0;founder f at 1,0;founder f at 1,0");
        CHECK.due("one behind another that is seen", y.led(0), 1);
    }

    private static void sizes() {
        CoverTwo x = Check.told("wall wide 7 high 3 law 4 hang;bill a plain wide 1 high 1 text a"
            + ";bill b plain wide 1 high 1 text a;rival r sheets 1;word a;word b;word c"
            + ";founder a at 0,0;founder a at 1,0;founder a at 1,0");
        x.scrape();
        x.days(1);
        x.mark();
        x.feed(0, 0, 0, 0, 0);
        int[] due = {7, 3, 4, 1, 2, 1, 3, 3, 2, 1, 20};
        for (int what = 0; what < due.length; what++) {
            CHECK.due("size " + what, x.size(what), due[what]);
        }
        CHECK.due("size -1", x.size(-1), NONE);
        CHECK.due("size 11", x.size(11), NONE);
        CHECK.due("size is no call that may be refused", x.trouble(), 0);
        CHECK.due("size 3 by those that are seen", Check.told(DEEP).size(3), 0);
    }

    private static void troubles() {
        CoverTwo x = Check.told(DEEP);
        x.paste(9, 0, 0, 0);
        x.size(77);
        x.fault();
        x.where();
        x.feed(0, 0, 0, 0, 0);
        throwsAt(x, 9);
        CHECK.due("trouble of the latest call that may be refused", x.trouble(), 1);
        CHECK.due("trouble told again", x.trouble(), 1);
        x.hanging();
        CHECK.due("trouble of one that wasn't", x.trouble(), 0);
    }

    private static void withoutWall() {
        CoverTwo x = new CoverTwo();
        refused(x, "stays", x.stays(0, 0, 0), 1);
        refused(x, "best", x.best(0), 1);
        refused(x, "far", x.far(9), 1);
        refused(x, "shortest", x.shortest(1), 1);
        refused(x, "wins", x.wins(1), 1);
        refused(x, "close", x.close(0, 9), 1);
        refused(x, "life", x.life(9, true), 1);
        refused(x, "orders", x.orders(), 1);
        refused(x, "ahead", x.ahead(0, 1), 1);
        refused(x, "mark", x.mark(), 1);
        CHECK.due("back", x.back(0), false);
        CHECK.due("back: trouble", x.trouble(), 1);
    }
}
