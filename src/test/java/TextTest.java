/** Promises 1 to 5: a new object, feed, wall, fault, where; what a text may be and its faults. */
public final class TextTest {
    private static final Check CHECK = new Check();
    private static final String WALL = "wall wide 3 high 2 law 0 seen";
    private static final String BILL = ";bill a plain wide 2 high 1 text ab";
    private static final String RIVAL = ";rival r sheets 9";
    private static final String ALL = WALL + BILL + RIVAL;

    public static void main(String[] args) {
        newObject();
        feeds();
        walls();
        wallStays();
        forms();
        names();
        bounds();
        many();
        lacks();
        pastes();
        goodTexts();
        whereAndFault();
        CHECK.end();
    }

    private static void newObject() {
        CoverTwo x = new CoverTwo();
        CHECK.due("new trouble", x.trouble(), 0);
        CHECK.due("new fault", x.fault(), 0);
        CHECK.due("new where", x.where(), CoverTwo.NONE);
        for (int what = 0; what <= 10; what++) {
            CHECK.due("new size " + what, x.size(what), 0);
        }
        CHECK.due("new hanging", x.hanging(), CoverTwo.NONE);
        CHECK.due("new hanging's trouble", x.trouble(), 1);
    }

    private static void feeds() {
        CoverTwo x = new CoverTwo();
        x.hanging();
        for (int i = 1; i <= 45; i++) {
            CHECK.due("feed " + i, x.feed(0, -1, Integer.MIN_VALUE, i, 7), 20 * i);
        }
        CHECK.due("feed beyond", x.feed(1, 2, 3, 4, 5), CoverTwo.NONE);
        CHECK.due("none came", x.size(10), 900);
        CHECK.due("feed is no call that may be refused", x.trouble(), 1);
        CoverTwo y = new CoverTwo();
        y.feed(0x776f7264, 0x20616263, 0x64656667, 0x68202020, 0x20202020);
        CHECK.due("highest byte first: word abcdefgh, no wall", y.wall(13), CoverTwo.NONE);
        CHECK.due("its fault", y.fault(), 6);
        CHECK.due("its place", y.where(), 13);
    }

    private static void walls() {
        CoverTwo x = new CoverTwo();
        Check.feed(x, ALL);
        int bytes = x.size(10);
        CHECK.due("wall of too many", x.wall(bytes + 1), CoverTwo.NONE);
        CHECK.due("its trouble", x.trouble(), 2);
        CHECK.due("wall of fewer than none", x.wall(-1), CoverTwo.NONE);
        CHECK.due("its trouble", x.trouble(), 2);
        CHECK.due("the tape stays", x.size(10), bytes);
        CHECK.due("2 leaves the fault", x.fault(), 0);
        CHECK.due("wall of just all, blanks too", x.wall(bytes), 1);
        CHECK.due("no trouble", x.trouble(), 0);
        CHECK.due("the tape is empty", x.size(10), 0);
        CHECK.due("not all bytes of it", tellPart(x, ALL + " founder", ALL.length()), 1);
        CHECK.due("the rest is gone too", x.size(10), 0);
        CHECK.due("a whole that is cut", tellPart(x, "rival r sheets 21", 16), CoverTwo.NONE);
        CHECK.due("nothing out of bounds in it", x.fault(), 6);
        CHECK.due("a word that is cut", tellPart(x, ALL + "cdefghijk", ALL.length()), 1);
        CHECK.due("four bills", Check.tell(x, WALL + BILL + ";bill b torn wide 1 high 1 text c"
            + ";bill c last wide 1 high 1 text c;bill d wording wide 1 high 1 text c"), 4);
    }

    private static int tellPart(CoverTwo x, String text, int n) {
        Check.feed(x, text);
        return x.wall(n);
    }

    private static void wallStays() {
        CoverTwo x = Check.told(ALL + ";paste a at 0,0 by r");
        x.paste(0, 0, 1, 0);
        x.days(2);
        x.mark();
        CHECK.due("a fault", Check.tell(x, ALL + ";paste a at 0,0 by r;paste a at 0,0 by r"), CoverTwo.NONE);
        CHECK.due("the tape is empty behind a fault", x.size(10), 0);
        CHECK.due("the wall stays", x.hanging(), 2);
        CHECK.due("acts stay", x.size(8), 2);
        CHECK.due("marks stay", x.size(9), 1);
        CHECK.due("pay stays", x.rival(0, 2), 8);
        CHECK.due("sheets stay", x.rival(0, 0), 7);
        CHECK.due("without a fault", Check.tell(x, ALL + ";paste a at 0,0 by r"), 1);
        CHECK.due("nothing to undo", x.size(8), 0);
        CHECK.due("nothing to undo", x.undo(), false);
        CHECK.due("no marks", x.size(9), 0);
        CHECK.due("no marks", x.back(0), false);
        CHECK.due("nobody is paid", x.rival(0, 2), 0);
        CHECK.due("sheets anew", x.rival(0, 0), 8);
        CHECK.due("hanging anew", x.hanging(), 1);
        x.days(3);
        Check.tell(x, ALL);
        Check.tell(x, ALL);
        CHECK.due("nobody is paid on a third wall", x.rival(0, 2), 0);
        CHECK.due("nothing hangs on it", x.hanging(), 0);
    }

    /** A text with ^ ahead of the place of its fault. */
    private static void fault(int number, String marked) {
        CoverTwo x = new CoverTwo();
        String text = marked.replace("^", "");
        CHECK.due("wall of " + marked, Check.tell(x, text), CoverTwo.NONE);
        CHECK.due("trouble of " + marked, x.trouble(), 4);
        CHECK.due("fault of " + marked, x.fault(), number);
        CHECK.due("where of " + marked, x.where(), marked.indexOf('^'));
    }

    private static void good(String text, int bills) {
        CoverTwo x = new CoverTwo();
        CHECK.due("wall of " + text, Check.tell(x, text), bills);
        CHECK.due("trouble of " + text, x.trouble(), 0);
        CHECK.due("fault of " + text, x.fault(), 0);
        CHECK.due("where of " + text, x.where(), CoverTwo.NONE);
    }

    private static void forms() {
        fault(1, "^");
        fault(1, "   ^");
        fault(1, "^;" + ALL);
        fault(1, ALL + ";^");
        fault(1, ALL + ";  ^");
        fault(1, ALL + ";^;");
        fault(1, "^Wall wide 3");
        fault(1, "^walls wide 3");
        fault(1, "^wide 3");
        fault(1, "^3");
        fault(1, "wall^");
        fault(1, "wall ^high 3");
        fault(1, "wall wide ^three");
        fault(1, "wall wide ^1000");
        fault(1, "wall wide ^-3");
        fault(1, "wall wide 3 high 2 law 0 ^up");
        fault(1, "wall wide 3 high 2 law 0 ^");
        fault(1, WALL + " ^bill a");
        fault(1, WALL + "^,");
        fault(1, WALL + "^\n");
        fault(1, WALL + "^\u00e9");
        fault(1, WALL + ";bill ^abcdefghi plain");
        fault(1, WALL + ";bill ^7");
        fault(1, WALL + ";bill a ^soft");
        fault(1, WALL + ";bill a plain wide 2 high 1 text ^5");
        fault(1, WALL + ";bill a plain wide 2 high 1 text ^abcdefghi");
        fault(1, ALL + ";founder a ^by r");
        fault(1, ALL + ";founder a at 0 ^0");
        fault(1, ALL + ";founder a at 0,0 ^by r");
        fault(1, ALL + ";paste a at 0,0^");
        fault(1, ALL + ";paste a at 0,0^;");
        fault(1, "word ^5");
        fault(1, "word ^;");
        fault(1, "rival r ^sheet 3");
        for (String reserved : new String[] {"wall", "bill", "rival", "founder", "word", "paste"}) {
            fault(1, WALL + ";bill ^" + reserved);
            fault(1, "rival ^" + reserved);
            fault(1, ALL + ";founder ^" + reserved);
            fault(1, ALL + ";paste a at 0,0 by ^" + reserved);
        }
    }

    private static void names() {
        fault(2, ALL + ";founder ^b");
        fault(2, ALL + ";founder ^r");
        fault(2, ALL + ";paste ^aa");
        fault(2, ALL + ";paste ^r");
        fault(2, ALL + ";paste a at 0,0 by ^q");
        fault(2, ALL + ";paste a at 0,0 by ^a");
        fault(2, WALL + ";founder ^a at 0,0" + BILL);
        fault(2, WALL + BILL + ";paste a at 0,0 by ^r" + RIVAL);
        fault(3, WALL + BILL + ";bill ^a");
        fault(3, ALL + ";rival ^r");
        fault(3, ALL + ";rival ^a");
        fault(3, ALL + ";bill ^r");
        fault(3, "word ab;word ba;word ^ab");
        fault(3, WALL + ";^wall");
        fault(3, ALL + ";^wall wide 3 high 2 law 0 seen");
    }

    private static void bounds() {
        fault(4, "wall wide ^1");
        fault(4, "wall wide ^9");
        fault(4, "wall wide ^0");
        fault(4, "wall wide 8 high ^0");
        fault(4, "wall wide 8 high ^5");
        fault(4, "wall wide 8 high 4 law ^5");
        fault(4, WALL + ";bill a plain wide ^4");
        fault(4, WALL + ";bill a plain wide ^0");
        fault(4, WALL + ";bill a plain wide 3 high ^3");
        fault(4, WALL + ";bill a plain wide 3 high ^0");
        fault(4, "rival r sheets ^21");
        fault(4, "rival r sheets ^999");
        fault(4, ALL + ";founder a at ^2");
        fault(4, ALL + ";founder a at 1,^2");
        fault(4, ALL + ";paste a at ^2,9");
        fault(4, ALL + ";paste a at 1,^2 by q");
    }

    private static void many() {
        String bills = BILL + ";bill b plain wide 1 high 1 text a;bill c plain wide 1 high 1 text a"
            + ";bill d plain wide 1 high 1 text a";
        good(WALL + bills, 4);
        fault(5, WALL + bills + ";^bill a");
        fault(5, WALL + bills + ";^bill 5");
        String rivals = "rival p sheets 0;rival q sheets 20;rival r sheets 3";
        good(rivals + ";" + WALL + BILL, 1);
        fault(5, rivals + ";^rival s sheets 1");
        String words = "word a;word b;word c;word d;word e;word f";
        good(words + ";" + WALL + BILL, 1);
        fault(5, words + ";^word a");
        String founders = ";founder a at 0,0;founder a at 0,0;founder a at 1,1;founder a at 1,1";
        good(ALL + founders, 1);
        fault(5, ALL + founders + ";^founder a at 0,0");
        StringBuilder pastes = new StringBuilder("wall wide 2 high 1 law 1 seen;bill a plain wide 2 high 1 text b"
            + ";rival r sheets 20;founder a at 0,0");
        for (int i = 0; i < 10; i++) {
            pastes.append(";paste a at 0,0 by r");
        }
        good(pastes.toString(), 1);
        fault(5, pastes + ";^paste a at 0,0 by r");
        fault(5, ALL.replace("law 0", "law 1") + founders + ";paste a at 0,0 by r;^founder a");
    }

    private static void lacks() {
        fault(6, "^bill a plain");
        fault(6, "^founder a");
        fault(6, "^paste a");
        fault(6, "word a;rival b sheets 3;^bill");
        fault(6, ALL + ";paste a at 0,0 by r;^founder a at 0,1");
        fault(6, WALL + "^");
        fault(6, WALL + "  ^");
        fault(6, "word a^");
        fault(6, "rival r sheets 3;word a ^");
    }

    private static void pastes() {
        fault(7, ALL + ";paste a at 0,0 by r;paste a at 1,0 by ^r");
        fault(7, ALL.replace("law 0", "law 1") + ";paste a at 0,0 by ^r");
        fault(7, WALL + BILL + ";rival r sheets 0;paste a at 0,0 by ^r");
        fault(7, WALL + BILL + ";rival r sheets 1;paste a at 0,0 by r;paste a at 0,1 by ^r");
        fault(7, WALL + ";bill t torn wide 1 high 1 text x" + RIVAL + ";paste t at 0,0 by ^r");
        fault(7, WALL + ";bill t last wide 1 high 1 text x" + RIVAL + ";founder t at 0,0;paste t at 1,0 by ^r");
        String wording = WALL + ";bill t wording wide 1 high 1 text x" + RIVAL;
        fault(7, wording + ";paste t at 0,0 by ^r;word x");
        good(wording + ";word x;paste t at 0,0 by r", 1);
        fault(2, ALL + ";paste a at 0,0 by r;paste a at 0,0 by ^q");
    }

    private static void goodTexts() {
        good(WALL + BILL, 1);
        good("  wall   wide 2 high 1 law 4 hang ; bill a plain wide 1 high 1 text x  ", 1);
        good("wall wide2high1law0seen;bill a plain wide1high1text x", 1);
        good("wall wide 002 high 01 law 000 seen;bill a plain wide 1 high 1 text x", 1);
        good("wall wide 8 high 4 law 4 seen;bill a plain wide 8 high 4 text abcdefgh", 1);
        good("word wall;word bill;" + WALL + ";bill a plain wide 1 high 1 text paste", 1);
        good("word a;word r;" + ALL, 1);
        good(WALL + ";bill wide plain wide 1 high 1 text text;rival at sheets 1"
            + ";paste wide at 0,0 by at", 1);
        good(ALL + ";paste a at 0 , 0 by r;rival q sheets 3;bill b plain wide 1 high 1 text q;paste b at 2,0 by q", 2);
        good(ALL + ";founder a at 1,1;founder a at 1,1", 1);
    }

    private static void whereAndFault() {
        CoverTwo x = new CoverTwo();
        Check.tell(x, "wall wide 9");
        CHECK.due("where", x.where(), 10);
        x.size(3);
        x.feed(1, 2, 3, 4, 5);
        CHECK.due("where, behind calls that can't be refused", x.where(), 10);
        CHECK.due("refused by 2", x.wall(1000), CoverTwo.NONE);
        CHECK.due("where behind 2", x.where(), CoverTwo.NONE);
        CHECK.due("fault behind 2", x.fault(), 4);
        CHECK.due("a fault anew", x.wall(0), CoverTwo.NONE);
        CHECK.due("where behind it", x.where(), 0);
        x.hanging();
        CHECK.due("where behind another refusal", x.where(), CoverTwo.NONE);
        CHECK.due("fault behind it", x.fault(), 1);
        Check.tell(x, ALL);
        CHECK.due("fault without one", x.fault(), 0);
        CHECK.due("where without one", x.where(), CoverTwo.NONE);
    }
}
