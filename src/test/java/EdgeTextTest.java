/** Terms I at its edges: what a text may be, each fault, and the place of each. */
public final class EdgeTextTest {
    private static final Edge E = new Edge();
    private static final String WALL = "wall wide 3 high 2 law 0 seen";
    private static final String BILL = ";bill a plain wide 2 high 1 text ab";
    private static final String RIVAL = ";rival r sheets 9";
    private static final String ALL = WALL + BILL + RIVAL;
    private static final String[] RESERVED = {"wall", "bill", "rival", "founder", "word", "paste"};

    public static void main(String[] args) {
        tapeHasNineHundred();
        blanks();
        words();
        wholes();
        singleOnes();
        lines();
        wallLine();
        wallAhead();
        billLine();
        rivalLine();
        wordLine();
        founderLine();
        pasteLine();
        names();
        firstFromTheLeft();
        leastOfOnePlace();
        formAtEachToken();
        notTold();
        toldAgain();
        outOfBounds();
        many();
        lacks();
        mayNotBe();
        withoutSheets();
        E.end();
    }

    /** One with something of everything, for what stays. */
    private static Driven lively() {
        return Driven.of("wall wide 2 high 1 law 1 seen;bill f plain wide 2 high 1 text ab;rival p sheets 5;word b"
            + ";founder f at 0,0").act("paste", 0, 0, 0, 0).act("days", 2).act("mark").act("paste", 0, 0, 0, 0);
    }

    /** A text with ^ ahead of the place of its fault; what was told before stays. */
    private static void fault(int number, String marked) {
        String text = marked.replace("^", "");
        Driven x = lively();
        E.due("wall of " + marked, x.tell(text), CoverTwo.NONE);
        E.due("trouble of " + marked, x.ask("trouble"), 4);
        E.due("fault of " + marked, x.ask("fault"), number);
        E.due("where of " + marked, x.ask("where"), marked.indexOf('^'));
        E.due("bytes behind " + marked, x.ask("size", 10), 0);
        E.stays(EdgeTextTest::lively, x, marked);
    }

    private static Driven good(String text, int bills) {
        Driven x = lively();
        E.due("wall of " + text, x.tell(text), bills);
        E.due("trouble of " + text, x.ask("trouble"), 0);
        E.due("fault of " + text, x.ask("fault"), 0);
        E.due("where of " + text, x.ask("where"), CoverTwo.NONE);
        return x;
    }

    private static String padded(String text, int size) {
        return text + " ".repeat(size - text.length());
    }

    private static void tapeHasNineHundred() {
        E.term("THE TAPE has 900 bytes");
        good(padded(ALL, 899), 1);
        good(padded(ALL, 900), 1);
        fault(1, padded(ALL, 898) + "^! ");
        fault(1, padded(ALL, 899) + "^!");
        fault(1, padded(ALL + ";", 900) + "^");
        Driven x = good(padded(ALL + ";word", 892) + "abcdefgh", 1);
        E.is(x, 1, "size", 6);
    }

    private static void blanks() {
        E.term("blanks, 32, part TOKENS and mean nothing else");
        good(" " + ALL, 1);
        good(ALL + " ", 1);
        good(ALL.replace(" ", "    ").replace(";", "  ;  "), 1);
        good("wall wide3high2law0seen;bill a plain wide2high1text ab", 1);
        good(ALL + ";founder a at 0,0", 1);
        good(ALL + ";founder a at  0  ,  0  ", 1);
        fault(1, "^wa ll wide 3");
        fault(1, "wall ^wi de 3");
        fault(1, "rival r sheets 1 ^0");
        fault(1, "word ab ^c");
        for (int other : new int[] {0, 9, 10, 13, 31, 33, 127, 160, 255}) {
            fault(1, "wall wide 3^" + (char) other + "high 2");
            fault(1, "^" + (char) other + ALL);
            fault(1, ALL + "^" + (char) other);
        }
    }

    private static void words() {
        E.term("WORDS of 1 to 8 small letters that stand together");
        good(WALL + ";bill b plain wide 1 high 1 text c;word d", 1);
        good(WALL + ";bill abcdefgh plain wide 1 high 1 text ijklmnop;word qrstuvwx;rival yzabcdef sheets 1", 1);
        good(WALL + ";bill abcdefg plain wide 1 high 1 text ijklmno;word qrstuvw", 1);
        fault(1, WALL + ";bill ^abcdefghi plain wide 1 high 1 text c");
        fault(1, WALL + ";bill b plain wide 1 high 1 text ^abcdefghi");
        fault(1, "rival ^abcdefghi sheets 1");
        fault(1, "word ^abcdefghi");
        fault(1, "word ^abcdefghijklmnopq");
        good(ALL + ";word az", 1);
        good(ALL + ";word zzzzzzzz", 1);
        for (int other : new int[] {'a' - 1, 'z' + 1, 'A' - 1, 'A', 'Z', 'Z' + 1, 'a' + 128, 'z' + 128}) {
            fault(1, ALL + ";word ^" + (char) other);
            fault(1, ALL + ";word a^" + (char) other + "z");
        }
    }

    private static void wholes() {
        E.term("WHOLES of 1 to 3 digits that do");
        for (String sheets : new String[] {"7", "07", "007"}) {
            E.is(good(WALL + BILL + ";rival r sheets " + sheets, 1), 7, "rival", 0, 0);
        }
        fault(1, "rival r sheets ^0007");
        fault(1, "rival r sheets ^00000000000000000007");
        for (int digit = 0; digit <= 9; digit++) {
            E.is(good(WALL + BILL + ";rival r sheets " + digit, 1), digit, "rival", 0, 0);
            E.is(good(WALL + BILL + ";rival r sheets 1" + digit, 1), 10 + digit, "rival", 0, 0);
        }
        for (int other : new int[] {'0' - 1, '9' + 1, '+', '-', '.', '0' + 128}) {
            fault(1, "rival r sheets ^" + (char) other + "7");
            fault(1, WALL + BILL + ";rival r sheets 1^" + (char) other);
        }
        fault(4, "rival r sheets ^999");
        fault(1, "rival r sheets ^1000");
    }

    private static void singleOnes() {
        E.term("single ones of ; ,");
        good(ALL + ";word a", 1);
        fault(1, ALL + ";^;word a");
        good(ALL + ";founder a at 0,0", 1);
        fault(1, ALL + ";founder a at 0,^,0");
        fault(1, ALL + ";founder a at 0^;0");
        fault(1, ALL + "^,word a");
        for (int other : new int[] {',' - 1, ',' + 1, ';' - 1, ';' + 1, ',' + 128, ';' + 128}) {
            fault(1, ALL + ";founder a at 0^" + (char) other + "0");
            fault(1, ALL + "^" + (char) other + "word a");
        }
    }

    private static void lines() {
        E.term("LINE {; LINE}");
        fault(1, "^");
        fault(1, " ^");
        fault(1, "^;");
        fault(1, "^;" + ALL);
        good(WALL + BILL, 1);
        good(ALL, 1);
        fault(1, ALL + ";^");
        fault(1, ALL + "; ^");
        fault(1, WALL + " ^bill a plain wide 2 high 1 text ab");
        fault(1, ALL + ";^plain");
        fault(1, ALL + ";^7");
        fault(1, ALL + ";^walls");
        fault(1, ALL + ";^bil");
    }

    private static void wallLine() {
        E.term("wall wide WHOLE high WHOLE law WHOLE HOW (2 .. 8, 1 .. 4; 0 .. 4; HOW: seen, or hang)");
        String bill = ";bill a plain wide 1 high 1 text a";
        fault(4, "wall wide ^0");
        fault(4, "wall wide ^1 high 1 law 0 seen" + bill);
        fault(4, "wall wide ^9 high 1 law 0 seen" + bill);
        fault(4, "wall wide 2 high ^0 law 0 seen" + bill);
        fault(4, "wall wide 2 high ^5 law 0 seen" + bill);
        fault(4, "wall wide 2 high 1 law ^5 seen" + bill);
        for (int[] size : new int[][] {{2, 1, 0}, {3, 2, 1}, {7, 3, 3}, {8, 4, 4}}) {
            for (String how : new String[] {"seen", "hang"}) {
                Driven x = good("wall wide " + size[0] + " high " + size[1] + " law " + size[2] + " " + how + bill, 1);
                for (int what = 0; what < 3; what++) {
                    E.is(x, size[what], "size", what);
                }
                E.is(x, how.equals("hang") ? 1 : 0, "size", 3);
            }
        }
        for (String how : new String[] {"see", "seens", "han", "hangs", "plain"}) {
            fault(1, "wall wide 2 high 1 law 0 ^" + how + bill);
        }
    }

    private static void wallAhead() {
        E.term("ahead of bill, founder, paste");
        fault(6, "^bill a plain wide 1 high 1 text a;" + WALL);
        fault(6, "^founder a at 0,0;" + ALL);
        fault(6, "^paste a at 0,0 by r;" + ALL);
        fault(6, "rival r sheets 1;word a;^bill a plain wide 1 high 1 text a;" + WALL);
        good("rival r sheets 1;word a;" + WALL + BILL + ";paste a at 0,0 by r", 1);
        good("rival r sheets 1;rival p sheets 1;rival q sheets 1;word a;word b;" + WALL + BILL, 1);
    }

    private static void billLine() {
        E.term("bill NAME KIND wide WHOLE high WHOLE text WORD"
            + " (KIND: plain, torn, wording, or last; no wider, no higher than the wall; any WORD; up to 4)");
        String[] kinds = {"plain", "torn", "wording", "last"};
        for (int kind = 0; kind < 4; kind++) {
            E.is(good(WALL + ";bill a " + kinds[kind] + " wide 1 high 1 text a", 1), kind, "bill", 0, 0);
            fault(1, WALL + ";bill a ^" + kinds[kind] + "s wide 1 high 1 text a");
            fault(1, WALL + ";bill a ^" + kinds[kind].substring(1) + " wide 1 high 1 text a");
        }
        for (int[] size : new int[][] {{2, 1}, {3, 2}, {8, 4}}) {
            billSizes("wall wide " + size[0] + " high " + size[1] + " law 0 seen", size[0], size[1]);
        }
        for (String reserved : RESERVED) {
            E.is(good(WALL + ";bill a plain wide 1 high 1 text " + reserved, 1), reserved.length(), "bill", 0, 3);
        }
        StringBuilder text = new StringBuilder(WALL);
        for (int bills = 1; bills <= 4; bills++) {
            text.append(";bill ").append("abcde".charAt(bills)).append(" plain wide 1 high 1 text a");
            E.is(good(text.toString(), bills), bills, "size", 4);
        }
        fault(5, text + ";^bill z plain wide 1 high 1 text a");
    }

    private static void billSizes(String wall, int wide, int high) {
        good(wall + ";bill a plain wide 1 high 1 text a", 1);
        Driven x = good(wall + ";bill a plain wide " + wide + " high " + high + " text a", 1);
        E.is(x, wide, "bill", 0, 1);
        E.is(x, high, "bill", 0, 2);
        good(wall + ";bill a plain wide " + (wide - 1) + " high " + high + " text a", 1);
        fault(4, wall + ";bill a plain wide ^" + (wide + 1) + " high 1 text a");
        fault(4, wall + ";bill a plain wide 1 high ^" + (high + 1) + " text a");
        fault(4, wall + ";bill a plain wide ^0 high 1 text a");
        fault(4, wall + ";bill a plain wide 1 high ^0 text a");
    }

    private static void rivalLine() {
        E.term("rival NAME sheets WHOLE (0 .. 20; up to 3)");
        for (int sheets : new int[] {0, 1, 19, 20}) {
            E.is(good(WALL + BILL + ";rival r sheets " + sheets, 1), sheets, "rival", 0, 0);
        }
        fault(4, WALL + BILL + ";rival r sheets ^21");
        fault(4, WALL + BILL + ";rival r sheets ^021");
        fault(1, WALL + BILL + ";rival r sheets ^-1");
        E.is(good(WALL + BILL, 1), 0, "size", 5);
        String two = WALL + BILL + ";rival p sheets 1;rival q sheets 2";
        E.is(good(two, 1), 2, "size", 5);
        E.is(good(two + ";rival r sheets 3", 1), 3, "size", 5);
        fault(5, two + ";rival r sheets 3;^rival s sheets 4");
    }

    private static void wordLine() {
        E.term("word WORD (any; up to 6)");
        E.is(good(ALL, 1), 0, "size", 6);
        E.is(good(ALL + ";word wall;word bill;word rival;word founder;word word;word paste", 1), 6, "size", 6);
        E.is(good(ALL + ";word a;word r;word plain;word at;word by", 1), 5, "size", 6);
        fault(5, ALL + ";word a;word b;word c;word d;word e;word f;^word g");
    }

    private static void founderLine() {
        E.term("founder BILL at WHOLE, WHOLE (x, y of its upper left cell; all of it on the wall; up to 4, ahead of paste)");
        corners(WALL + ";bill a plain wide 2 high 1 text ab;founder a at ", "", 1, 1);
        corners(WALL + ";bill a plain wide 3 high 2 text ab;founder a at ", "", 0, 0);
        corners("wall wide 8 high 4 law 0 seen;bill a plain wide 1 high 1 text a;founder a at ", "", 7, 3);
        E.is(good(ALL, 1), 0, "size", 7);
        String three = ALL + ";founder a at 0,0;founder a at 0,0;founder a at 0,0";
        E.is(good(three, 1), 3, "size", 7);
        E.is(good(three + ";founder a at 0,0", 1), 4, "size", 7);
        fault(5, three + ";founder a at 0,0;^founder a at 0,0");
        good(ALL + ";founder a at 0,0;paste a at 0,1 by r", 1);
        fault(6, ALL + ";paste a at 0,1 by r;^founder a at 0,0");
    }

    /** All four corners of the wall, and one step beyond: x and y at most so much. */
    private static void corners(String ahead, String behind, int right, int low) {
        for (int[] at : new int[][] {{0, 0}, {right, 0}, {0, low}, {right, low}}) {
            Driven x = good(ahead + at[0] + "," + at[1] + behind, 1);
            E.is(x, at[0], "hung", 0, 1);
            E.is(x, at[1], "hung", 0, 2);
        }
        fault(4, ahead + "^" + (right + 1) + ",0" + behind);
        fault(4, ahead + "0,^" + (low + 1) + behind);
        fault(4, ahead + "^" + (right + 1) + "," + (low + 1) + behind);
        fault(4, ahead + "^999,0" + behind);
        fault(4, ahead + "0,^999" + behind);
    }

    private static void pasteLine() {
        E.term("paste BILL at WHOLE, WHOLE by RIVAL (likewise; up to 10)");
        corners(WALL + RIVAL + ";bill a plain wide 2 high 1 text ab;paste a at ", " by r", 1, 1);
        corners(WALL + RIVAL + ";bill a plain wide 3 high 2 text ab;paste a at ", " by r", 0, 0);
        corners("wall wide 8 high 4 law 0 seen;bill a plain wide 1 high 1 text a" + RIVAL + ";paste a at ", " by r", 7, 3);
        StringBuilder text = new StringBuilder(ALL.replace("law 0", "law 1").replace("sheets 9", "sheets 20")
            + ";founder a at 0,0");
        for (int pastes = 1; pastes <= 10; pastes++) {
            text.append(";paste a at 0,0 by r");
            Driven x = good(text.toString(), 1);
            E.is(x, 1 + pastes, "hanging");
            E.is(x, 20 - pastes, "rival", 0, 0);
        }
        fault(5, text + ";^paste a at 0,0 by r");
    }

    private static void names() {
        E.term("NAMES are WORDS but wall, bill, rival, founder, word, paste; each told once, ahead of its use.");
        for (String name : RESERVED) {
            fault(1, WALL + ";bill ^" + name + " plain wide 1 high 1 text a");
            fault(1, ALL + ";rival ^" + name + " sheets 1");
            fault(1, ALL + ";founder ^" + name + " at 0,0");
            fault(1, ALL + ";paste ^" + name + " at 0,0 by r");
            fault(1, ALL + ";paste a at 0,0 by ^" + name);
        }
        String[] others = {"wide", "high", "law", "seen", "hang", "plain", "torn", "wording", "last", "text", "sheets",
            "at", "by", "walls", "wal", "bills", "words", "pastes", "rivals", "founders"};
        for (String name : others) {
            good(WALL + ";bill " + name + " plain wide 1 high 1 text a" + RIVAL + ";founder " + name + " at 0,0", 1);
            good(WALL + BILL + ";rival " + name + " sheets 1;paste a at 0,0 by " + name, 1);
        }
        fault(3, ALL + ";bill ^a plain wide 1 high 1 text b");
        good(ALL + ";bill aa plain wide 1 high 1 text b", 2);
        fault(2, WALL + ";founder ^a at 0,0" + BILL);
        fault(2, WALL + BILL + ";paste a at 0,0 by ^r" + RIVAL);
        good(WALL + BILL + ";founder a at 0,0" + RIVAL + ";paste a at 0,1 by r", 1);
    }

    private static void firstFromTheLeft() {
        E.term("FAULTS, the first that is met from the left");
        fault(4, "wall wide ^9 high 9 law 9 up");
        fault(4, "wall wide 8 high ^9 law 9 up");
        fault(4, "wall wide 8 high 4 law ^9 up");
        fault(1, "wall wide 8 high 4 law 4 ^up;bill");
        fault(3, "word a;word ^a;word a;!");
        fault(1, "word a;^!;word a");
        fault(2, ALL + ";founder ^b at 9,9");
        fault(4, ALL + ";founder a at ^9,9;founder b");
        fault(4, ALL + ";paste a at 0,^9 by q");
        fault(7, ALL + ";paste a at 0,0 by r;paste a at 0,0 by ^r;bill a");
        fault(5, "word a;word b;word c;word d;word e;word f;^word a;!");
        fault(6, "^bill bill");
        fault(3, WALL + ";^wall wide 9");
    }

    private static void leastOfOnePlace() {
        E.term("of one place the least number");
        fault(1, WALL + ";^");
        fault(1, "word a;^");
        fault(1, WALL + ";bill^");
        fault(2, ALL + ";paste a at 0,0 by r;paste a at 0,0 by ^a");
        fault(2, ALL.replace("law 0", "law 1") + ";paste a at 0,0 by ^q");
        fault(7, ALL.replace("law 0", "law 1") + ";paste a at 0,0 by ^r");
        String founders = ALL + ";founder a at 0,0;founder a at 0,0;founder a at 0,0";
        fault(6, founders + ";paste a at 0,1 by r;^founder a at 0,0");
        fault(5, founders + ";founder a at 0,0;paste a at 0,1 by r;^founder a at 0,0");
    }

    /** Each token of a text that tells all, cut behind, and in its place one that can't go on. */
    private static void formAtEachToken() {
        E.term("1 FORM: the first byte that begins no TOKEN, or TOKEN with which no WALL goes on (the end: its place)");
        String all = "wall wide 3 high 2 law 0 seen ; bill a plain wide 2 high 1 text ab ; rival r sheets 9 ; word b"
            + " ; founder a at 0 , 0 ; paste a at 0 , 1 by r";
        String[] tokens = all.split(" ");
        String ahead = "";
        boolean billTold = false;
        for (int i = 0; i < tokens.length; i++) {
            boolean whole = tokens[i].matches("[0-9]");
            fault(1, ahead + "^!");
            fault(1, ahead + "^" + (tokens[i].equals(",") ? ";" : ","));
            fault(1, ahead + "^" + (whole ? "five" : "5"));
            if (!tokens[i].equals(";")) {
                fault(1, ahead + "^;word 5");
            }
            if (tokens[i].equals(";")) {
                billTold |= ahead.contains("bill");
                cutBehindLine(ahead, billTold);
            } else {
                fault(1, ahead + "^");
            }
            ahead += tokens[i] + " ";
        }
        good(all, 1);
    }

    private static void cutBehindLine(String text, boolean billTold) {
        if (billTold) {
            good(text, 1);
        } else {
            fault(6, text + "^");
        }
    }

    private static void notTold() {
        E.term("2 a NAME that isn't told, or is of another sort than must stand there; at it.");
        fault(2, ALL + ";founder ^b at 0,0");
        fault(2, ALL + ";founder ^aa at 0,0");
        fault(2, ALL + ";founder ^r at 0,0");
        fault(2, ALL + ";paste ^b at 0,0 by r");
        fault(2, ALL + ";paste ^r at 0,0 by r");
        fault(2, ALL + ";paste a at 0,0 by ^q");
        fault(2, ALL + ";paste a at 0,0 by ^rr");
        fault(2, ALL + ";paste a at 0,0 by ^a");
        fault(2, ALL + ";word b;founder ^b at 0,0");
        good(ALL + ";founder a at 0,0;paste a at 0,1 by r", 1);
    }

    private static void toldAgain() {
        E.term("3 a NAME, a word told again; at it; a second wall; at that WORD.");
        fault(3, ALL + ";bill ^a plain wide 1 high 1 text b");
        fault(3, ALL + ";bill ^r plain wide 1 high 1 text b");
        fault(3, ALL + ";rival ^r sheets 1");
        fault(3, ALL + ";rival ^a sheets 1");
        fault(3, "word ab;word ^ab");
        fault(3, "word a;word b;word c;word d;word e;word ^a");
        good(ALL + ";word ab;word ba;word abc;word b", 1);
        good(ALL + ";word a;word r", 1);
        fault(3, WALL + ";^wall wide 3 high 2 law 0 seen");
        fault(3, ALL + ";^wall");
    }

    private static void outOfBounds() {
        E.term("4 a WHOLE out of bounds (an x, a y by which it would be beyond); at it.");
        String big = WALL + ";bill a plain wide 2 high 2 text ab;bill b plain wide 1 high 1 text c" + RIVAL;
        good(big + ";founder a at 1,0;founder b at 2,1", 2);
        fault(4, big + ";founder a at ^2,0");
        fault(4, big + ";founder a at 1,^1");
        fault(4, big + ";founder b at ^3,1");
        fault(4, big + ";founder b at 2,^2");
        good(big + ";paste a at 1,0 by r;paste b at 0,1 by r", 2);
        fault(4, big + ";paste a at ^2,0 by r");
        fault(4, big + ";paste a at 1,^1 by r");
        fault(4, big + ";paste b at ^3,1 by r");
        fault(4, big + ";paste b at 2,^2 by r");
    }

    private static void many() {
        E.term("5 MANY: a LINE more of its sort than there is room for, at its first WORD.");
        fault(5, "rival p sheets 1;rival q sheets 1;rival r sheets 1;^rival p");
        fault(5, "rival p sheets 1;rival q sheets 1;rival r sheets 1;word a;^rival");
        fault(5, "word a;word b;word c;word d;word e;word f; ^word 5");
        fault(5, WALL + BILL + BILL.replace(" a ", " b ") + BILL.replace(" a ", " c ") + BILL.replace(" a ", " d ")
            + RIVAL + ";^bill");
    }

    private static void lacks() {
        E.term("6 LACKS: bill, founder, paste ahead of the wall, founder behind paste; at that WORD;"
            + " at the end: no wall, no bill.");
        fault(6, "^bill");
        fault(6, "^founder");
        fault(6, "^paste");
        fault(6, ALL + ";paste a at 0,0 by r;^founder");
        fault(6, "word a^");
        fault(6, "word a   ^");
        fault(6, "rival r sheets 1^");
        fault(6, WALL + "^");
        fault(6, WALL + ";rival r sheets 1;word a^");
        good(WALL + ";rival r sheets 1;word a" + BILL, 1);
    }

    private static void mayNotBe() {
        E.term("7 a paste that may not be");
        String law = "wall wide 3 high 1 law 1 seen;bill a plain wide 2 high 1 text ab;bill d plain wide 1 high 1 text c"
            + ";bill t torn wide 2 high 1 text e;bill z last wide 1 high 1 text z;rival r sheets 9;founder d at 0,0";
        fault(7, law + ";paste a at 1,0 by ^r");
        good(law + ";paste a at 0,0 by r", 4);
        fault(7, law + ";founder d at 1,0;paste a at 0,0 by ^r");
        fault(7, law + ";paste t at 0,0 by ^r");
        good(law + ";founder d at 1,0;paste t at 0,0 by r", 4);
        good(law + ";paste z at 0,0 by r", 4);
        fault(7, law + ";paste z at 0,0 by r;paste d at 0,0 by ^r");
        String wording = "wall wide 3 high 1 law 0 seen;bill w wording wide 1 high 1 text a;rival r sheets 9";
        fault(7, wording + ";paste w at 0,0 by ^r;word a");
        good(wording + ";word a;paste w at 0,0 by r", 1);
        fault(7, wording + ";word aa;paste w at 0,0 by ^r");
    }

    private static void withoutSheets() {
        E.term("or of a RIVAL without SHEETS; at its RIVAL.");
        fault(7, WALL + BILL + ";rival r sheets 0;paste a at 0,0 by ^r");
        E.is(good(WALL + BILL + ";rival r sheets 1;paste a at 0,0 by r", 1), 0, "rival", 0, 0);
        fault(7, WALL + BILL + ";rival r sheets 1;paste a at 0,0 by r;paste a at 0,1 by ^r");
        good(WALL + BILL + ";rival r sheets 1;rival q sheets 1;paste a at 0,0 by r;paste a at 0,1 by q", 1);
        good(WALL + BILL + ";rival r sheets 2;paste a at 0,0 by r;paste a at 0,1 by r", 1);
    }
}
