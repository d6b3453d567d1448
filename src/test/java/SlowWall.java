import java.util.ArrayList;
import java.util.HashSet;
import java.util.LinkedHashMap;
import java.util.List;
import java.util.Map;
import java.util.NoSuchElementException;
import java.util.Set;
import java.util.regex.Matcher;
import java.util.regex.Pattern;

/** The document once more, written as plainly and as slowly as it goes, to hold the class against. */
final class SlowWall {
    static final class Bill {
        String kind = "";
        int wide;
        int high;
        String text = "";
        int kindNumber() {
            return List.of("plain", "torn", "wording", "last").indexOf(kind);
        }
    }

    static final class Sheet {
        final int bill;
        final int x;
        final int y;
        final int who;
        Sheet(int bill, int x, int y, int who) {
            this.bill = bill;
            this.x = x;
            this.y = y;
            this.who = who;
        }
    }

    static final class Refused extends RuntimeException {
        private static final long serialVersionUID = 1;
        final int number;
        Refused(int number) {
            super("refused", null, false, false);
            this.number = number;
        }
    }

    static final class Fault extends RuntimeException {
        private static final long serialVersionUID = 1;
        final int number;
        final int place;
        Fault(int number, int place) {
            super("fault", null, false, false);
            this.number = number;
            this.place = place;
        }
    }

    /** What an act changes. */
    static final class State {
        final List<Sheet> sheets;
        final int[] left;
        final int[] paid;
        State(List<Sheet> sheets, int[] left, int[] paid) {
            this.sheets = new ArrayList<>(sheets);
            this.left = left.clone();
            this.paid = paid.clone();
        }
    }

    /** All that a text tells. */
    static final class Plan {
        int wide;
        int high;
        int law;
        boolean hang;
        int founders;
        int pastes;
        final List<Bill> bills = new ArrayList<>();
        final Map<String, Integer> billNames = new LinkedHashMap<>();
        final Map<String, Integer> rivalNames = new LinkedHashMap<>();
        final List<String> words = new ArrayList<>();
        final List<Sheet> hanging = new ArrayList<>();
        final int[] left = new int[3];
        final int[] paid = new int[3];

        boolean inside(int b, int x, int y) {
            Bill bill = bills.get(b);
            return x >= 0 && y >= 0 && x < wide && y < high
                && x + bill.wide <= wide && y + bill.high <= high;
        }

        boolean covers(Sheet s, int x, int y) {
            Bill bill = bills.get(s.bill);
            return x >= s.x && x < s.x + bill.wide && y >= s.y && y < s.y + bill.high;
        }

        Sheet top(List<Sheet> sheets, int x, int y) {
            Sheet top = null;
            for (Sheet s : sheets) {
                if (covers(s, x, y)) {
                    top = s;
                }
            }
            return top;
        }

        int seen(List<Sheet> sheets, Sheet one) {
            int cells = 0;
            for (int y = 0; y < high; y++) {
                for (int x = 0; x < wide; x++) {
                    if (top(sheets, x, y) == one) {
                        cells++;
                    }
                }
            }
            return cells;
        }

        char letter(List<Sheet> sheets, int x, int y) {
            Sheet s = top(sheets, x, y);
            if (s == null) {
                return '.';
            }
            Bill bill = bills.get(s.bill);
            return bill.text.charAt((bill.wide * (y - s.y) + x - s.x) % bill.text.length());
        }

        List<Integer> readFrom(List<Sheet> sheets, String word) {
            List<Integer> cells = new ArrayList<>();
            for (int y = 0; y < high; y++) {
                StringBuilder row = new StringBuilder();
                for (int x = 0; x < wide; x++) {
                    row.append(letter(sheets, x, y));
                }
                for (int x = 0; x < wide; x++) {
                    if (row.toString().startsWith(word, x)) {
                        cells.add(wide * y + x);
                    }
                }
            }
            return cells;
        }

        boolean readsMore(List<Sheet> sheets, int b, int x, int y) {
            List<Sheet> then = with(sheets, b, x, y, -2);
            for (String word : words) {
                if (readFrom(then, word).size() > readFrom(sheets, word).size()) {
                    return true;
                }
            }
            return false;
        }

        List<Sheet> with(List<Sheet> sheets, int b, int x, int y, int who) {
            List<Sheet> then = new ArrayList<>(sheets);
            then.add(new Sheet(b, x, y, who));
            return then;
        }

        int liesOn(List<Sheet> sheets, int b, int x, int y, boolean byHang) {
            Sheet fresh = new Sheet(b, x, y, -2);
            Set<Sheet> found = new HashSet<>();
            for (int cy = 0; cy < high; cy++) {
                for (int cx = 0; cx < wide; cx++) {
                    if (!covers(fresh, cx, cy)) {
                        continue;
                    }
                    for (Sheet s : sheets) {
                        if (byHang ? covers(s, cx, cy) : top(sheets, cx, cy) == s) {
                            found.add(s);
                        }
                    }
                }
            }
            return found.size();
        }

        boolean could(List<Sheet> sheets, int b, int x, int y, int n, boolean byHang) {
            for (Sheet s : sheets) {
                if (bills.get(s.bill).kind.equals("last")) {
                    return false;
                }
            }
            return sheets.size() < 30 && liesOn(sheets, b, x, y, byHang) == n
                && (!bills.get(b).kind.equals("wording") || readsMore(sheets, b, x, y));
        }

        boolean may(List<Sheet> sheets, int b, int x, int y) {
            return could(sheets, b, x, y, bills.get(b).kind.equals("torn") ? law + 1 : law, hang);
        }

        List<int[]> moves(List<Sheet> sheets, int b) {
            List<int[]> moves = new ArrayList<>();
            for (int y = 0; y < high; y++) {
                for (int x = 0; x < wide; x++) {
                    if (inside(b, x, y) && may(sheets, b, x, y)) {
                        moves.add(new int[] {b, x, y});
                    }
                }
            }
            return moves;
        }

        List<int[]> moves(List<Sheet> sheets) {
            List<int[]> moves = new ArrayList<>();
            for (int b = 0; b < bills.size(); b++) {
                moves.addAll(moves(sheets, b));
            }
            return moves;
        }

        /** All rows by their lengths, 0 to d, as the walls that they leave. */
        List<List<List<Sheet>>> rows(List<Sheet> sheets, int d, int who) {
            List<List<List<Sheet>>> levels = new ArrayList<>();
            levels.add(List.of(sheets));
            int count = 0;
            for (int length = 1; length <= d; length++) {
                List<List<Sheet>> level = new ArrayList<>();
                for (List<Sheet> before : levels.get(length - 1)) {
                    for (int[] m : moves(before)) {
                        level.add(with(before, m[0], m[1], m[2], who));
                        count++;
                        if (count > 20000) {
                            throw new Refused(3);
                        }
                    }
                }
                levels.add(level);
            }
            return levels;
        }

        boolean wins(List<Sheet> sheets, int d) {
            if (d < 1) {
                return false;
            }
            for (int[] m : moves(sheets)) {
                List<Sheet> mine = with(sheets, m[0], m[1], m[2], -2);
                List<int[]> others = moves(mine);
                boolean all = d >= 3 || others.isEmpty();
                for (int[] o : others) {
                    all = all && wins(with(mine, o[0], o[1], o[2], -2), d - 2);
                }
                if (all) {
                    return true;
                }
            }
            return false;
        }
    }

    /** Reads a text line by line: each has a form, a slot a token. */
    static final class Reader {
        static final String RESERVED = "wall|bill|rival|founder|word|paste";
        static final Map<String, String> FORMS = Map.of(
            "wall", "wall wide #2..8 high #1..4 law #0..4 HOW",
            "bill", "bill NEW KIND wide #1..W high #1..H text ANY",
            "rival", "rival NEW sheets #0..20",
            "word", "word ONCE",
            "founder", "founder BILL at #X , #Y",
            "paste", "paste BILL at #X , #Y by RIVAL");
        final List<String> tokens = new ArrayList<>();
        final List<Integer> places = new ArrayList<>();
        final Plan plan = new Plan();
        int next;

        Reader(String text) {
            Matcher m = Pattern.compile("[a-z]+|[0-9]+|[^ ]", Pattern.DOTALL).matcher(text);
            while (m.find()) {
                tokens.add(m.group());
                places.add(m.start());
            }
            tokens.add("END");
            places.add(text.length());
        }

        Plan read() {
            do {
                line();
                if (!is("END|;")) {
                    fail(1);
                }
            } while (tokens.get(next++).equals(";"));
            next--;
            if (plan.wide == 0 || plan.bills.isEmpty()) {
                fail(6);
            }
            return plan;
        }

        boolean is(String pattern) {
            return tokens.get(next).matches(pattern);
        }

        void fail(int number) {
            throw new Fault(number, places.get(next));
        }

        void line() {
            if (!is(RESERVED)) {
                fail(1);
            }
            String sort = tokens.get(next);
            int[] has = {plan.bills.size(), plan.rivalNames.size(), plan.words.size(), plan.founders, plan.pastes};
            int[] room = {4, 3, 6, 4, 10};
            int number = List.of("bill", "rival", "word", "founder", "paste").indexOf(sort);
            if (sort.equals("wall") && plan.wide > 0) {
                fail(3);
            }
            if (number >= 0 && has[number] >= room[number]) {
                fail(5);
            }
            if (sort.matches("bill|founder|paste") && plan.wide == 0) {
                fail(6);
            }
            if (sort.equals("founder") && plan.pastes > 0) {
                fail(6);
            }
            next++;
            List<String> got = new ArrayList<>();
            String[] slots = FORMS.get(sort).split(" ");
            for (int i = 1; i < slots.length; i++) {
                slot(slots[i], got);
                got.add(tokens.get(next));
                next++;
            }
            keep(sort, got);
        }

        void slot(String slot, List<String> got) {
            String form = slot.startsWith("#") ? "[0-9]{1,3}"
                : slot.equals("HOW") ? "seen|hang"
                : slot.equals("KIND") ? "plain|torn|wording|last"
                : slot.matches("[A-Z]+") ? "[a-z]{1,8}"
                : slot;
            if (!is(form) || slot.matches("NEW|BILL|RIVAL") && is(RESERVED)) {
                fail(1);
            }
            String token = tokens.get(next);
            if (slot.equals("BILL") && !plan.billNames.containsKey(token)
                    || slot.equals("RIVAL") && !plan.rivalNames.containsKey(token)) {
                fail(2);
            }
            if (slot.equals("NEW") && (plan.billNames.containsKey(token) || plan.rivalNames.containsKey(token))
                    || slot.equals("ONCE") && plan.words.contains(token)) {
                fail(3);
            }
            if (slot.startsWith("#")) {
                bounds(slot, Integer.parseInt(token), got);
            }
            if (slot.equals("RIVAL") && !allowed(got, token)) {
                fail(7);
            }
        }

        void bounds(String slot, int value, List<String> got) {
            int low = 0;
            int high;
            if (slot.equals("#X")) {
                high = plan.wide - plan.bills.get(plan.billNames.get(got.get(0))).wide;
            } else if (slot.equals("#Y")) {
                high = plan.high - plan.bills.get(plan.billNames.get(got.get(0))).high;
            } else {
                String[] ends = slot.substring(1).split("\\.\\.");
                low = Integer.parseInt(ends[0]);
                high = ends[1].equals("W") ? plan.wide : ends[1].equals("H") ? plan.high : Integer.parseInt(ends[1]);
            }
            if (value < low || value > high) {
                fail(4);
            }
        }

        boolean allowed(List<String> got, String rival) {
            return plan.left[plan.rivalNames.get(rival)] > 0 && plan.may(plan.hanging,
                plan.billNames.get(got.get(0)), Integer.parseInt(got.get(2)), Integer.parseInt(got.get(4)));
        }

        void keep(String sort, List<String> got) {
            switch (sort) {
                case "wall" -> {
                    plan.wide = Integer.parseInt(got.get(1));
                    plan.high = Integer.parseInt(got.get(3));
                    plan.law = Integer.parseInt(got.get(5));
                    plan.hang = got.get(6).equals("hang");
                }
                case "bill" -> {
                    Bill bill = new Bill();
                    bill.kind = got.get(1);
                    bill.wide = Integer.parseInt(got.get(3));
                    bill.high = Integer.parseInt(got.get(5));
                    bill.text = got.get(7);
                    plan.billNames.put(got.get(0), plan.bills.size());
                    plan.bills.add(bill);
                }
                case "rival" -> {
                    plan.left[plan.rivalNames.size()] = Integer.parseInt(got.get(2));
                    plan.rivalNames.put(got.get(0), plan.rivalNames.size());
                }
                case "word" -> plan.words.add(got.get(0));
                default -> hang(sort, got);
            }
        }

        void hang(String sort, List<String> got) {
            int who = -2;
            if (sort.equals("paste")) {
                who = plan.rivalNames.get(got.get(6));
                plan.left[who]--;
                plan.pastes++;
            } else {
                plan.founders++;
            }
            plan.hanging.add(new Sheet(plan.billNames.get(got.get(0)),
                Integer.parseInt(got.get(2)), Integer.parseInt(got.get(4)), who));
        }
    }

    private final StringBuilder tape = new StringBuilder();
    private Plan p;
    private State s = new State(List.of(), new int[3], new int[3]);
    private final List<State> acts = new ArrayList<>();
    private final List<State> marks = new ArrayList<>();
    private int trouble;
    private int fault;
    private int where = -1;

    interface Asked {
        int get();
    }

    private int ask(Asked asked) {
        try {
            int answer = asked.get();
            trouble = 0;
            return answer;
        } catch (Refused r) {
            trouble = r.number;
            return -1;
        }
    }

    private boolean act(Runnable change) {
        return ask(() -> {
            change.run();
            return 1;
        }) == 1;
    }

    private void need(boolean so, int number) {
        if (!so) {
            throw new Refused(number);
        }
    }

    private void needWall() {
        need(p != null, 1);
    }

    private void needBill(int b) {
        need(p != null && b >= 0 && b < p.bills.size(), 1);
    }

    private void needRival(int r) {
        need(p != null && r >= 0 && r < p.rivalNames.size(), 1);
    }

    private void needWord(int w) {
        need(p != null && w >= 0 && w < p.words.size(), 1);
    }

    private void needCell(int x, int y) {
        need(p != null && x >= 0 && x < p.wide && y >= 0 && y < p.high, 1);
    }

    private void needHung(int i) {
        need(p != null && i >= 0 && i < s.sheets.size(), 1);
    }

    private void keepAct() {
        acts.add(new State(s.sheets, s.left, s.paid));
        if (acts.size() > 12) {
            acts.remove(0);
        }
    }

    private int number(int x, int y) {
        return p.wide * y + x;
    }

    private int seenOf(int r) {
        return s.sheets.stream().filter(h -> h.who == r).mapToInt(h -> p.seen(s.sheets, h)).sum();
    }

    int feed(int a, int b, int c, int d, int e) {
        if (tape.length() + 20 > 900) {
            return -1;
        }
        for (int number : new int[] {a, b, c, d, e}) {
            tape.append((char) (number >>> 24)).append((char) (number >>> 16 & 255));
            tape.append((char) (number >>> 8 & 255)).append((char) (number & 255));
        }
        return tape.length();
    }

    int wall(int n) {
        return ask(() -> {
            need(n >= 0 && n <= tape.length(), 2);
            String text = tape.substring(0, n);
            tape.setLength(0);
            try {
                p = new Reader(text).read();
            } catch (Fault f) {
                fault = f.number;
                where = f.place;
                throw new Refused(4);
            }
            fault = 0;
            acts.clear();
            marks.clear();
            s = new State(p.hanging, p.left, p.paid);
            return p.bills.size();
        });
    }

    int fault() {
        return fault;
    }

    int where() {
        return trouble == 4 ? where : -1;
    }

    int bill(int b, int what) {
        return ask(() -> {
            needBill(b);
            need(what >= 0 && what <= 3, 1);
            Bill bill = p.bills.get(b);
            return new int[] {bill.kindNumber(), bill.wide, bill.high, bill.text.length()}[what];
        });
    }

    int hanging() {
        return ask(() -> {
            needWall();
            return s.sheets.size();
        });
    }

    int hung(int i, int what) {
        return ask(() -> {
            needHung(i);
            need(what >= 0 && what <= 4, 1);
            Sheet h = s.sheets.get(i);
            return new int[] {h.bill, h.x, h.y, h.who, p.seen(s.sheets, h)}[what];
        });
    }

    int shows(int x, int y) {
        return ask(() -> {
            needCell(x, y);
            Sheet top = p.top(s.sheets, x, y);
            return top == null ? -2 : s.sheets.indexOf(top);
        });
    }

    int letter(int x, int y) {
        return ask(() -> {
            needCell(x, y);
            char letter = p.letter(s.sheets, x, y);
            return letter == '.' ? -2 : letter - 'a';
        });
    }

    private boolean share(Sheet a, Sheet b) {
        for (int y = 0; y < p.high; y++) {
            for (int x = 0; x < p.wide; x++) {
                if (p.covers(a, x, y) && p.covers(b, x, y)) {
                    return true;
                }
            }
        }
        return false;
    }

    private int touch(int i, int from, int to) {
        int bits = 0;
        for (int j = from; j < to; j++) {
            bits += share(s.sheets.get(i), s.sheets.get(j)) ? 1 << j : 0;
        }
        return bits;
    }

    int under(int i) {
        return ask(() -> {
            needHung(i);
            return touch(i, 0, i);
        });
    }

    int over(int i) {
        return ask(() -> {
            needHung(i);
            return touch(i, i + 1, s.sheets.size());
        });
    }

    int beneath(int x, int y, int i) {
        return ask(() -> {
            needCell(x, y);
            List<Integer> there = new ArrayList<>();
            for (int j = 0; j < s.sheets.size(); j++) {
                if (p.covers(s.sheets.get(j), x, y)) {
                    there.add(0, j);
                }
            }
            need(i >= 0 && i < there.size(), 6);
            return there.get(i);
        });
    }

    int on(int b, int x, int y) {
        return ask(() -> {
            needBill(b);
            need(p.inside(b, x, y), 2);
            return p.liesOn(s.sheets, b, x, y, p.hang);
        });
    }

    int may(int b, int x, int y) {
        return ask(() -> {
            needBill(b);
            need(p.inside(b, x, y), 2);
            return p.may(s.sheets, b, x, y) ? 1 : 0;
        });
    }

    int places(int b) {
        return ask(() -> {
            needBill(b);
            return p.moves(s.sheets, b).size();
        });
    }

    int place(int b, int i) {
        return ask(() -> {
            needBill(b);
            List<int[]> moves = p.moves(s.sheets, b);
            need(i >= 0 && i < moves.size(), 1);
            return number(moves.get(i)[1], moves.get(i)[2]);
        });
    }

    int full() {
        return ask(() -> {
            needWall();
            return p.moves(s.sheets).isEmpty() ? 1 : 0;
        });
    }

    private List<int[]> tablePlaces(List<Sheet> sheets, int b, int n, boolean hang) {
        List<int[]> found = new ArrayList<>();
        for (int y = 0; y < p.high; y++) {
            for (int x = 0; x < p.wide; x++) {
                if (p.inside(b, x, y) && p.could(sheets, b, x, y, n, hang)) {
                    found.add(new int[] {x, y});
                }
            }
        }
        return found;
    }

    int table(int b, int n, boolean hang) {
        return ask(() -> {
            needBill(b);
            need(n >= 0 && n <= 5, 2);
            return tablePlaces(s.sheets, b, n, hang).size();
        });
    }

    boolean paste(int b, int x, int y, int rival) {
        return act(() -> {
            needBill(b);
            needRival(rival);
            need(p.inside(b, x, y), 2);
            need(s.left[rival] > 0, 6);
            need(p.may(s.sheets, b, x, y), 5);
            keepAct();
            s.sheets.add(new Sheet(b, x, y, rival));
            s.left[rival]--;
        });
    }

    boolean peel() {
        return act(() -> {
            need(p != null && s.sheets.size() > p.founders, 6);
            keepAct();
            s.sheets.remove(s.sheets.size() - 1);
        });
    }

    boolean tear(int i) {
        return act(() -> {
            needHung(i);
            need(i >= p.founders, 5);
            keepAct();
            s.sheets.remove(i);
        });
    }

    boolean scrape() {
        return act(() -> {
            needWall();
            keepAct();
            s.sheets.removeIf(h -> h.who >= 0);
        });
    }

    int days(int n) {
        return ask(() -> {
            needWall();
            need(n >= 1 && n <= 30, 2);
            keepAct();
            int all = 0;
            for (int day = 1; day <= n; day++) {
                all = 0;
                for (int r = 0; r < p.rivalNames.size(); r++) {
                    s.paid[r] += seenOf(r);
                    all += seenOf(r);
                }
            }
            return all;
        });
    }

    int rival(int r, int what) {
        return ask(() -> {
            needRival(r);
            need(what >= 0 && what <= 2, 1);
            return new int[] {s.left[r], seenOf(r), s.paid[r]}[what];
        });
    }

    boolean undo() {
        return act(() -> {
            need(!acts.isEmpty(), 6);
            s = acts.remove(acts.size() - 1);
        });
    }

    int reads(int w) {
        return ask(() -> {
            needWord(w);
            return p.readFrom(s.sheets, p.words.get(w)).size();
        });
    }

    int readAt(int w) {
        return ask(() -> {
            needWord(w);
            List<Integer> cells = p.readFrom(s.sheets, p.words.get(w));
            return cells.isEmpty() ? -2 : cells.get(0);
        });
    }

    int readBy(int w, int i) {
        return ask(() -> {
            needWord(w);
            need(i >= 0 && i < p.words.get(w).length(), 1);
            List<Integer> cells = p.readFrom(s.sheets, p.words.get(w));
            need(!cells.isEmpty(), 6);
            int cell = cells.get(0) + i;
            return s.sheets.indexOf(p.top(s.sheets, cell % p.wide, cell / p.wide));
        });
    }

    int makes(int b) {
        return ask(() -> {
            needBill(b);
            int count = 0;
            for (int[] m : p.moves(s.sheets, b)) {
                count += p.readsMore(s.sheets, b, m[1], m[2]) ? 1 : 0;
            }
            return count;
        });
    }

    private int staysOf(int b, int x, int y) {
        List<Sheet> then = p.with(s.sheets, b, x, y, -2);
        Sheet own = then.get(then.size() - 1);
        int least = p.seen(then, own);
        for (int[] m : p.moves(then)) {
            least = Math.min(least, p.seen(p.with(then, m[0], m[1], m[2], -2), own));
        }
        return least;
    }

    int stays(int b, int x, int y) {
        return ask(() -> {
            needBill(b);
            need(p.inside(b, x, y), 2);
            need(p.may(s.sheets, b, x, y), 5);
            return staysOf(b, x, y);
        });
    }

    int best(int b) {
        return ask(() -> {
            needBill(b);
            int most = -1;
            int best = -1;
            for (int[] m : p.moves(s.sheets, b)) {
                int stays = staysOf(b, m[1], m[2]);
                if (stays > most) {
                    most = stays;
                    best = number(m[1], m[2]);
                }
            }
            need(best >= 0, 6);
            return best;
        });
    }

    private List<List<List<Sheet>>> rows(int d) {
        needWall();
        need(d >= 1 && d <= 4, 2);
        return p.rows(s.sheets, d, -2);
    }

    int far(int d) {
        return ask(() -> {
            int far = 0;
            List<List<List<Sheet>>> levels = rows(d);
            for (int length = 0; length <= d; length++) {
                far = levels.get(length).isEmpty() ? far : length;
            }
            return far;
        });
    }

    int shortest(int d) {
        return ask(() -> {
            List<List<List<Sheet>>> levels = rows(d);
            for (int length = 0; length <= d; length++) {
                for (List<Sheet> sheets : levels.get(length)) {
                    if (p.moves(sheets).isEmpty()) {
                        return length;
                    }
                }
            }
            return -2;
        });
    }

    int wins(int d) {
        return ask(() -> {
            rows(d);
            return p.wins(s.sheets, d) ? 1 : 0;
        });
    }

    int close(int r, int d) {
        return ask(() -> {
            needRival(r);
            need(d >= 1 && d <= 4, 2);
            List<List<List<Sheet>>> levels = p.rows(s.sheets, Math.min(d, s.left[r]), r);
            for (int length = 0; length < levels.size(); length++) {
                for (List<Sheet> sheets : levels.get(length)) {
                    if (allOf(sheets, r)) {
                        return length;
                    }
                }
            }
            return -2;
        });
    }

    private boolean allOf(List<Sheet> sheets, int r) {
        for (int y = 0; y < p.high; y++) {
            for (int x = 0; x < p.wide; x++) {
                Sheet top = p.top(sheets, x, y);
                if (top == null || top.who != r) {
                    return false;
                }
            }
        }
        return true;
    }

    int life(int n, boolean hang) {
        return ask(() -> {
            needWall();
            need(n >= 0 && n <= 5, 2);
            List<Sheet> sheets = new ArrayList<>(s.sheets);
            boolean more = true;
            while (more) {
                more = false;
                for (int b = 0; b < p.bills.size(); b++) {
                    List<int[]> places = tablePlaces(sheets, b, n, hang);
                    if (!places.isEmpty()) {
                        sheets.add(new Sheet(b, places.get(0)[0], places.get(0)[1], -2));
                        more = true;
                    }
                }
            }
            return sheets.size() - s.sheets.size();
        });
    }

    private void permute(List<Sheet> done, List<Sheet> open, List<List<Sheet>> all) {
        if (open.isEmpty()) {
            all.add(List.copyOf(done));
        }
        for (Sheet h : open) {
            List<Sheet> rest = new ArrayList<>(open);
            rest.remove(h);
            done.add(h);
            permute(done, rest, all);
            done.remove(done.size() - 1);
        }
    }

    private boolean fitsOrder(List<Sheet> order) {
        List<Sheet> sheets = new ArrayList<>(s.sheets.subList(0, p.founders));
        for (Sheet h : order) {
            if (!p.may(sheets, h.bill, h.x, h.y)) {
                return false;
            }
            sheets.add(h);
        }
        for (int y = 0; y < p.high; y++) {
            for (int x = 0; x < p.wide; x++) {
                if (p.top(sheets, x, y) != p.top(s.sheets, x, y)) {
                    return false;
                }
            }
        }
        return true;
    }

    private List<List<Sheet>> allOrders() {
        List<Sheet> own = s.sheets.subList(p.founders, s.sheets.size());
        need(own.size() <= 7, 3);
        List<List<Sheet>> all = new ArrayList<>();
        permute(new ArrayList<>(), own, all);
        all.removeIf(order -> !fitsOrder(order));
        return all;
    }

    int orders() {
        return ask(() -> {
            needWall();
            return allOrders().size();
        });
    }

    int ahead(int i, int j) {
        return ask(() -> {
            needHung(i);
            needHung(j);
            need(i != j, 1);
            need(i >= p.founders && j >= p.founders, 5);
            Sheet one = s.sheets.get(i);
            Sheet other = s.sheets.get(j);
            return (int) allOrders().stream().filter(o -> o.indexOf(one) < o.indexOf(other)).count();
        });
    }

    int mark() {
        return ask(() -> {
            needWall();
            need(marks.size() < 3, 3);
            marks.add(new State(s.sheets, s.left, s.paid));
            return marks.size() - 1;
        });
    }

    boolean back(int mark) {
        return act(() -> {
            need(mark >= 0 && mark < marks.size(), 1);
            State m = marks.get(mark);
            s = new State(m.sheets, m.left, m.paid);
            acts.clear();
        });
    }

    int led(int i) {
        int left = i;
        for (int j = 0; j < s.sheets.size(); j++) {
            if (p.seen(s.sheets, s.sheets.get(j)) == 0 && left-- == 0) {
                return j;
            }
        }
        throw new NoSuchElementException();
    }

    int size(int what) {
        if (what < 0 || what > 10) {
            return -1;
        }
        if (p == null) {
            return what == 10 ? tape.length() : 0;
        }
        return new int[] {p.wide, p.high, p.law, p.hang ? 1 : 0, p.bills.size(), p.rivalNames.size(),
            p.words.size(), p.founders, acts.size(), marks.size(), tape.length()}[what];
    }

    int trouble() {
        return trouble;
    }
}
