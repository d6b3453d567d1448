/** Promises 38 to 44 at their edges: orders, marks, what isn't seen, sizes, trouble. */
public final class EdgeMarksTest {
    private static final Edge E = new Edge();

    public static void main(String[] args) {
        sevenAtMost();
        eachMayGo();
        showsTheSame();
        ordersRefused();
        aheadOfOrders();
        aheadUnlike();
        aheadFounders();
        aheadOfEight();
        marksByNumbers();
        markRefused();
        marksKeep();
        nothingUndoneBehind();
        marksStay();
        backRefused();
        whatIsntSeen();
        noneSuch();
        sizesAtTheirBounds();
        sizeOfOthers();
        sizeOfWhatThereIsnt();
        latestThatMayBeRefused();
        eachTrouble();
        upToTheLastCall();
        E.end(38, 44);
    }

    /** So many side by side, by turns of two rivals, behind some of the founder's that lie in the lowest row. */
    private static Driven sideBySide(int many, int founders) {
        StringBuilder text = new StringBuilder("wall wide 8 high 2 law 0 hang;bill d plain wide 1 high 1 text d"
            + ";rival p sheets 20;rival q sheets 20");
        for (int i = 0; i < founders; i++) {
            text.append(";founder d at ").append(i).append(",1");
        }
        Driven x = Driven.of(text.toString());
        for (int i = 0; i < many; i++) {
            x.act("paste", 0, i, 0, i % 2);
        }
        return x;
    }

    private static int factorial(int n) {
        return n < 2 ? 1 : n * factorial(n - 1);
    }

    private static void sevenAtMost() {
        E.promise(38, "ORDERS: how many.");
        E.term("ORDERS: of all orders of those HANGING that aren't the founder's (7 at most, else 3)");
        for (int many = 0; many <= 7; many++) {
            int now = many;
            E.asked(() -> sideBySide(now, 0), factorial(many), "orders");
            E.asked(() -> sideBySide(now, 4), factorial(many), "orders");
        }
        E.refused(() -> sideBySide(8, 0), 3, "orders");
        E.refused(() -> sideBySide(8, 4), 3, "orders");
        E.is(sideBySide(8, 4).act("peel"), 5040, "orders");
        E.is(sideBySide(8, 4).act("tear", 4), 5040, "orders");
    }

    private static void eachMayGo() {
        E.term("each MAY go, one behind the other, onto the founder's");
        String text = "wall wide 4 high 1 law 0 hang;bill d plain wide 1 high 1 text a;bill t torn wide 2 high 1 text b"
            + ";bill z last wide 1 high 1 text c;bill w wording wide 1 high 1 text w;rival r sheets 20;word aw";
        Driven torn = Driven.of(text + ";founder d at 0,0").act("paste", 1, 0, 0, 0);
        E.is(torn, 1, "orders");
        torn.act("paste", 0, 2, 0, 0);
        E.is(torn, 2, "orders");
        torn.act("paste", 2, 3, 0, 0);
        E.is(torn, 2, "orders");
        Driven worded = Driven.of(text).act("paste", 0, 0, 0, 0).act("paste", 3, 1, 0, 0);
        E.is(worded, 1, "orders");
        E.is(worded, 1, "ahead", 0, 1);
        worded.act("tear", 0);
        E.is(worded, 0, "orders");
        Driven hanging = Driven.of(text).act("paste", 0, 0, 0, 0).act("paste", 1, 0, 0, 0);
        E.is(hanging, 1, "orders");
        hanging.act("tear", 0);
        E.is(hanging, 0, "orders");
        Driven founders = Driven.of(text + ";founder z at 3,0");
        E.is(founders, 1, "orders");
    }

    private static void showsTheSame() {
        E.term("those that leave the wall as it looks now: each CELL SHOWS the same.");
        for (int many = 1; many <= 7; many++) {
            E.is(Driven.stack(1 + many), factorial(many - 1), "orders");
        }
        E.refused(() -> Driven.stack(9), 3, "orders");
        String text = "wall wide 3 high 1 law 1 seen;bill a plain wide 3 high 1 text a;bill d plain wide 1 high 1 text a"
            + ";rival r sheets 9;founder a at 0,0";
        Driven apart = Driven.of(text).act("paste", 1, 0, 0, 0).act("paste", 1, 2, 0, 0);
        E.is(apart, 2, "orders");
        Driven alike = Driven.of(text).act("paste", 1, 0, 0, 0).act("paste", 1, 0, 0, 0).act("paste", 1, 2, 0, 0);
        E.is(alike, 3, "orders");
        E.is(alike, 3, "ahead", 1, 2);
        E.is(alike, 0, "ahead", 2, 1);
        E.is(alike, 2, "ahead", 1, 3);
    }

    private static void ordersRefused() {
        E.promise(38, "NONE: 1 (no WALL); 3.");
        E.refused(Driven::new, 1, "orders");
        E.refused(() -> sideBySide(8, 2), 3, "orders");
        E.asked(() -> sideBySide(7, 2), 5040, "orders");
    }

    private static void aheadOfOrders() {
        E.promise(39, "In how many of them one HANGING comes ahead of another one");
        for (int many = 2; many <= 7; many++) {
            int now = many;
            E.asked(() -> sideBySide(now, 1), factorial(many) / 2, "ahead", 1, many);
            E.asked(() -> sideBySide(now, 1), factorial(many) / 2, "ahead", many, 1);
            E.asked(() -> sideBySide(now, 1), factorial(many) / 2, "ahead", many - 1, many);
            E.asked(() -> Driven.stack(now + 1), factorial(many - 1), "ahead", 1, many);
            E.asked(() -> Driven.stack(now + 1), 0, "ahead", many, 1);
        }
        E.asked(() -> Driven.stack(4), 1, "ahead", 1, 2);
        E.asked(() -> Driven.stack(4), 1, "ahead", 2, 1);
    }

    private static void aheadUnlike() {
        E.promise(39, "NONE: 1 (unlike)");
        for (int i = 0; i < 4; i++) {
            E.refused(() -> sideBySide(3, 1), 1, "ahead", i, i);
        }
        int[] none = {-1, 4, 5, 30, 32, Edge.MOST, Edge.LEAST};
        E.refusedFor(() -> sideBySide(3, 1), 1, none, 0, "ahead", 0, 1);
        E.refusedFor(() -> sideBySide(3, 1), 1, none, 1, "ahead", 1, 0);
        E.refusedFor(() -> sideBySide(3, 1), 1, none, 0, "ahead", 0, 0);
        E.refusedFor(() -> sideBySide(3, 1), 1, none, 1, "ahead", 0, 0);
        E.refused(() -> sideBySide(8, 1), 1, "ahead", 3, 3);
        E.refused(() -> sideBySide(8, 1), 1, "ahead", 1, 9);
        E.refused(Driven::new, 1, "ahead", 0, 1);
    }

    private static void aheadFounders() {
        E.promise(39, "(neither the founder's). NONE: 1 (unlike); 5 (the founder's)");
        for (int founder = 0; founder < 2; founder++) {
            E.refused(() -> sideBySide(3, 2), 5, "ahead", founder, 2);
            E.refused(() -> sideBySide(3, 2), 5, "ahead", 2, founder);
            E.refused(() -> sideBySide(8, 2), 5, "ahead", 2, founder);
        }
        E.refused(() -> sideBySide(3, 2), 5, "ahead", 0, 1);
        E.asked(() -> sideBySide(3, 2), 3, "ahead", 2, 3);
    }

    private static void aheadOfEight() {
        E.promise(39, "5 (the founder's); 3.");
        E.refused(() -> sideBySide(8, 2), 3, "ahead", 2, 3);
        E.refused(() -> sideBySide(8, 0), 3, "ahead", 0, 7);
        E.asked(() -> sideBySide(7, 2), 2520, "ahead", 2, 3);
        E.asked(() -> sideBySide(7, 0), 2520, "ahead", 0, 6);
    }

    private static void marksByNumbers() {
        E.promise(40, "A MARK: its number.");
        Driven x = sideBySide(2, 1);
        for (int mark = 0; mark < 3; mark++) {
            E.is(x, mark, "size", 9);
            E.is(x, mark, "mark");
        }
        E.is(x, 3, "size", 9);
        E.is(x, 2, "size", 8);
    }

    private static void markRefused() {
        E.promise(40, "NONE: 1 (no WALL); 3.");
        E.refused(Driven::new, 1, "mark");
        E.refused(() -> sideBySide(2, 1).act("mark").act("days", 1).act("mark").act("peel").act("mark"), 3, "mark");
        Driven x = sideBySide(2, 1).times(3, "mark").act("scrape");
        E.no(x, 3, "mark");
        E.is(x, 3, "size", 9);
        x.act("back", 0);
        E.no(x, 3, "mark");
        E.is(sideBySide(2, 1).times(2, "mark"), 2, "mark");
    }

    private static void marksKeep() {
        E.term("MARKS: up to 3; each keeps what HANGS, SHEETS, pay");
        Driven x = sideBySide(0, 1).act("mark").act("paste", 0, 5, 0, 0).act("days", 30).act("mark")
            .act("paste", 0, 6, 1, 1).act("paste", 0, 7, 1, 1).act("days", 1).act("tear", 1).act("mark").act("scrape");
        int[][] due = {{1, 20, 20, 0, 0}, {2, 19, 20, 30, 0}, {3, 19, 18, 31, 2}};
        for (int mark : new int[] {2, 0, 1, 1, 2, 0}) {
            E.is(x, 1, "back", mark);
            E.is(x, due[mark][0], "hanging");
            E.is(x, due[mark][1], "rival", 0, 0);
            E.is(x, due[mark][2], "rival", 1, 0);
            E.is(x, due[mark][3], "rival", 0, 2);
            E.is(x, due[mark][4], "rival", 1, 2);
            x.act("scrape").act("days", 1).act("paste", 0, 3, 0, 1);
        }
        E.is(x.act("back", 2), 7, "hung", 2, 1);
        E.is(x, 1, "hung", 2, 2);
        E.is(x, 1, "hung", 2, 3);
        E.is(x, -2, "hung", 0, 3);
        Driven none = sideBySide(0, 0).act("mark").act("paste", 0, 5, 1, 0).act("mark").act("scrape").act("paste", 0,
            2, 0, 1);
        E.is(none, 1, "back", 0);
        E.is(none, 0, "hanging");
        E.is(none, -2, "shows", 2, 0);
        none.act("paste", 0, 7, 0, 1);
        E.is(none, 1, "back", 1);
        E.is(none, 1, "hanging");
        E.is(none, 0, "shows", 5, 1);
        E.is(none, -2, "shows", 7, 0);
        E.is(none, 5, "hung", 0, 1);
        E.is(none, 0, "hung", 0, 3);
        Driven full = Driven.stack(30).act("mark").act("scrape");
        E.is(full, 1, "back", 0);
        E.is(full, 30, "hanging");
        E.is(full, 29, "shows", 1, 0);
    }

    private static void nothingUndoneBehind() {
        E.term("gone back to, nothing can be undone.");
        Driven x = sideBySide(3, 1).act("mark").act("days", 1);
        E.is(x, 4, "size", 8);
        x.act("back", 0);
        E.is(x, 0, "size", 8);
        E.no(x, 6, "undo");
        E.is(x, 4, "hanging");
        x.act("scrape");
        E.is(x, 1, "size", 8);
        E.is(x, 1, "undo");
        E.is(x, 4, "hanging");
        E.no(x, 6, "undo");
    }

    private static void marksStay() {
        E.promise(41, "All is as by a MARK (all MARKS stay): true");
        Driven x = sideBySide(1, 0).act("mark").act("paste", 0, 1, 0, 0).act("mark").act("paste", 0, 2, 0, 0).act("mark");
        for (int mark : new int[] {0, 2, 1, 0, 0, 2}) {
            E.is(x, 1, "back", mark);
            E.is(x, 3, "size", 9);
            E.is(x, 1 + mark, "hanging");
        }
        Driven two = sideBySide(1, 0).act("mark").act("mark").act("back", 0);
        E.is(two, 2, "size", 9);
        E.is(two, 2, "mark");
        Driven undone = sideBySide(1, 0).act("mark").act("undo");
        E.is(undone, 1, "size", 9);
        E.is(undone, 1, "back", 0);
        E.is(undone, 1, "hanging");
    }

    private static void backRefused() {
        E.promise(41, "false: 1.");
        E.refused(Driven::new, 1, "back", 0);
        E.refused(() -> sideBySide(2, 1), 1, "back", 0);
        int[] none = {-1, 2, 3, Edge.MOST, Edge.LEAST};
        E.refusedFor(() -> sideBySide(2, 1).act("mark").act("days", 1).act("mark").act("peel"), 1, none, 0, "back", 0);
        E.refusedFor(() -> sideBySide(2, 1).times(3, "mark").act("peel"), 1, new int[] {-1, 3, 4}, 0, "back", 0);
        E.is(sideBySide(2, 1).times(3, "mark"), 1, "back", 2);
    }

    private static void whatIsntSeen() {
        E.promise(42, "The i-th of those HANGING that aren't SEEN.");
        for (int i : new int[] {0, 1, 27, 28}) {
            E.is(Driven.stack(30), i, "led", i);
        }
        Driven x = Driven.of("wall wide 3 high 1 law 1 seen;bill d plain wide 1 high 1 text a;rival p sheets 20"
            + ";founder d at 0,0;founder d at 1,0;founder d at 1,0;founder d at 2,0").act("paste", 0, 2, 0, 0);
        E.is(x, 1, "led", 0);
        E.is(x, 3, "led", 1);
        E.is(x, Driven.THROWN, "led", 2);
        Driven part = Driven.of("wall wide 2 high 1 law 1 seen;bill a plain wide 2 high 1 text a"
            + ";bill d plain wide 1 high 1 text d"
            + ";rival p sheets 20;founder a at 0,0").act("paste", 1, 0, 0, 0);
        E.is(part, Driven.THROWN, "led", 0);
        part.act("paste", 1, 1, 0, 0);
        E.is(part, 0, "led", 0);
        E.is(part, Driven.THROWN, "led", 1);
    }

    private static void noneSuch() {
        E.promise(42, "NoSuchElementException if there is none such.");
        for (int i : new int[] {-1, 0, 1, 30, Edge.MOST, Edge.LEAST}) {
            E.is(new Driven(), Driven.THROWN, "led", i);
            E.is(sideBySide(3, 1), Driven.THROWN, "led", i);
        }
        for (int i : new int[] {-1, 29, 30, 31, 32, Edge.MOST, Edge.LEAST}) {
            Driven x = Driven.stack(30);
            x.ask("bill", -1, 0);
            E.is(x, Driven.THROWN, "led", i);
            E.is(x, 1, "trouble");
            E.stays(() -> Driven.stack(30), x, "led " + i);
        }
    }

    private static void sizesAtTheirBounds() {
        E.promise(43, "0 wide, 1 high, 2 the law's number, 3 1 if by those that hang, 4 bills told, 5 rivals, 6 words,"
            + " 7 the founder's, 8 ACTS that can be undone, 9 MARKS, 10 bytes of THE TAPE.");
        String bills = ";bill a plain wide 1 high 1 text a;bill b plain wide 1 high 1 text b"
            + ";bill c plain wide 1 high 1 text c"
            + ";bill d plain wide 1 high 1 text d";
        Driven most = Driven.of("wall wide 8 high 4 law 4 hang" + bills + ";rival p sheets 1;rival q sheets 1"
            + ";rival r sheets 1"
            + ";word a;word b;word c;word d;word e;word f" + ";founder a at 0,0".repeat(4))
            .times(3, "mark").times(13, "scrape");
        for (int i = 0; i < 46; i++) {
            most.ask("feed", 0, 0, 0, 0, 0);
        }
        int[] full = {8, 4, 4, 1, 4, 3, 6, 4, 12, 3, 900};
        Driven least = Driven.of("wall wide 2 high 1 law 0 seen;bill a plain wide 1 high 1 text a");
        int[] empty = {2, 1, 0, 0, 1, 0, 0, 0, 0, 0, 0};
        for (int what = 0; what <= 10; what++) {
            E.is(most, full[what], "size", what);
            E.is(least, empty[what], "size", what);
        }
    }

    private static void sizeOfOthers() {
        E.promise(43, "NONE for others");
        for (int what : new int[] {-1, 11, 12, Edge.MOST, Edge.LEAST}) {
            E.is(new Driven(), CoverTwo.NONE, "size", what);
            Driven x = sideBySide(2, 1);
            x.ask("wall", -1);
            E.is(x, CoverTwo.NONE, "size", what);
            E.is(x, 2, "trouble");
            E.stays(() -> sideBySide(2, 1), x, "size " + what);
        }
    }

    private static void sizeOfWhatThereIsnt() {
        E.promise(43, "0 for what there isn't.");
        Driven x = new Driven();
        for (int what = 0; what <= 10; what++) {
            E.is(x, 0, "size", what);
        }
        x.tell("wall wide 8 high 4 law 4 hang;bill a plain wide 1 high 1 text a;rival r sheets 3;word a"
            + ";founder a at 0,0;founder");
        for (int what = 0; what <= 10; what++) {
            E.is(x, 0, "size", what);
        }
        x.ask("feed", 0, 0, 0, 0, 0);
        E.is(x, 20, "size", 10);
    }

    private static void latestThatMayBeRefused() {
        E.term("TROUBLE of the latest call that may be refused (those of which a number is told here)");
        Driven x = sideBySide(2, 1);
        E.is(x, 0, "trouble");
        x.ask("bill", 9, 0);
        Object[][] others = {{"feed", 0, 0, 0, 0, 0}, {"fault"}, {"where"}, {"led", 0}, {"size", 0}, {"size", 99},
            {"trouble"}};
        for (Object[] other : others) {
            x.askRow(other);
            E.due("trouble behind " + other[0], x.ask("trouble"), 1);
        }
        for (int i = 0; i < 50; i++) {
            x.ask("feed", 0, 0, 0, 0, 0);
        }
        E.due("trouble behind a feed that gave nothing", x.ask("trouble"), 1);
        x.ask("hanging");
        E.due("trouble behind one that wasn't", x.ask("trouble"), 0);
        x.ask("feed", 0, 0, 0, 0, 0);
        E.due("trouble behind a feed that gave nothing", x.ask("trouble"), 0);
    }

    private static void eachTrouble() {
        E.promise(44, "TROUBLE.");
        E.term("0 it wasn't; 1 there is none such; 2 a number; 3 no room; 4 a FAULT; 5 not so; 6 there is none.");
        int[] troubles = {0, 1, 2, 3, 5, 6};
        Object[][] calls = {{"hanging"}, {"bill", 1, 0}, {"days", 31}, {"orders"}, {"tear", 0}, {"beneath", 0, 0, 1}};
        for (Object[] first : calls) {
            for (int i = 0; i < calls.length; i++) {
                Driven x = sideBySide(8, 1);
                x.askRow(first);
                x.askRow(calls[i]);
                E.due("trouble of " + calls[i][0] + " behind " + first[0], x.ask("trouble"), troubles[i]);
                E.due("trouble told again", x.ask("trouble"), troubles[i]);
            }
        }
        Driven faulty = sideBySide(1, 1);
        faulty.tell("wall");
        E.due("trouble of a fault", faulty.ask("trouble"), 4);
        E.due("told anew", faulty.tell("wall wide 2 high 1 law 0 seen;bill a plain wide 1 high 1 text a"), 1);
        E.due("trouble without one", faulty.ask("trouble"), 0);
    }

    private static void upToTheLastCall() {
        E.about("An object is used for at most 512 calls after it has been made");
        Driven x = Driven.stack(2);
        int days = 0;
        while (x.calls() < Driven.MOST_CALLS - 26) {
            x.act("days", 1 + days % 30);
            days++;
        }
        int due = 0;
        for (int i = 0; i < days - 12; i++) {
            due += 2 * (1 + i % 30);
        }
        x.times(12, "undo");
        E.due("what was paid", x.ask("rival", 1, 2), due);
        E.due("nothing more to undo", x.ask("undo"), 0);
        x.times(11, "scrape");
        E.due("the 512th call", x.ask("size", 8), 11);
        E.due("calls", x.calls(), Driven.MOST_CALLS);
    }
}
