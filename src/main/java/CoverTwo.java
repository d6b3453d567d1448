import java.util.NoSuchElementException;

/** A wall of cells and the bills on it, told as a text; promises 1 to 44 of the document. */
public final class CoverTwo {
    public static final int NONE = -1;

    /** An answer, not a refusal: nothing shows, nothing is read, no row does. */
    private static final int NOTHING = -2;
    /** Stands where a rival's number would, for what the founder nailed up. */
    private static final int FOUNDER = -2;

    private static final int TAPE_ROOM = 900;
    private static final int FEED_BYTES = 20;
    private static final int MAX_WIDE = 8;
    private static final int MAX_HIGH = 4;
    private static final int MAX_CELLS = 32;
    private static final int MAX_LAW = 4;
    private static final int MAX_BILLS = 4;
    private static final int MAX_RIVALS = 3;
    private static final int MAX_SHEETS = 20;
    private static final int MAX_WORDS = 6;
    private static final int MAX_FOUNDERS = 4;
    private static final int MAX_PASTES = 10;
    private static final int MAX_HANGING = 30;
    private static final int MAX_ACTS = 12;
    private static final int MAX_MARKS = 3;
    private static final int MAX_DAYS = 30;
    private static final int MAX_TABLE_LAW = 5;
    private static final int MAX_ROW = 4;
    private static final int MAX_ROWS = 20000;
    private static final int MAX_ORDERED = 7;

    private static final int PLAIN = 0;
    private static final int TORN = 1;
    private static final int WORDING = 2;
    private static final int LAST = 3;

    /** A letter's code is 1 (a) to 26 (z), 0 where nothing shows, so that five bits hold it. */
    private static final int LETTER_BITS = 5;
    private static final int LETTER_MASK = 31;
    private static final int MAX_LETTERS = 8;
    private static final int MAX_DIGITS = 3;

    private static final int NO_SUCH = 1;
    private static final int BAD_NUMBER = 2;
    private static final int NO_ROOM = 3;
    private static final int FAULTY = 4;
    private static final int NOT_SO = 5;
    private static final int NONE_THERE = 6;

    private static final int FORM = 1;
    private static final int NOT_TOLD = 2;
    private static final int TOLD_AGAIN = 3;
    private static final int OUT_OF_BOUNDS = 4;
    private static final int MANY = 5;
    private static final int LACKS = 6;
    private static final int MAY_NOT = 7;

    private static final int AT_END = 0;
    private static final int A_WORD = 1;
    private static final int A_WHOLE = 2;
    private static final int SEMICOLON = 3;
    private static final int COMMA = 4;
    private static final int NO_TOKEN = 5;

    /** How a state is kept in a row of numbers: how many hang, sheets, pay, then each that hangs. */
    private static final int KEPT_SHEETS = 1;
    private static final int KEPT_PAID = KEPT_SHEETS + MAX_RIVALS;
    private static final int KEPT_HUNG = KEPT_PAID + MAX_RIVALS;
    private static final int KEPT_SIZE = KEPT_HUNG + MAX_HANGING;

    private final byte[] tape = new byte[TAPE_ROOM];
    private int tapeSize;
    private Hung now = new Hung();
    private final Telling telling = new Telling();
    private final Shelf acts = new Shelf(MAX_ACTS);
    private final Shelf marks = new Shelf(MAX_MARKS);
    private final Rows rows = new Rows();
    private final Orders sequences = new Orders();
    private int troubleNumber;
    private int faultNumber;
    private int faultPlace;

    public CoverTwo() {
    }

    // ---- the wall

    public int feed(int a, int b, int c, int d, int e) {
        if (tapeSize + FEED_BYTES > TAPE_ROOM) {
            return NONE;
        }
        takeFourBytes(a);
        takeFourBytes(b);
        takeFourBytes(c);
        takeFourBytes(d);
        takeFourBytes(e);
        return tapeSize;
    }

    public int wall(int n) {
        if (n < 0 || n > tapeSize) {
            return refuse(BAD_NUMBER);
        }
        tapeSize = 0;
        faultNumber = telling.readText(tape, n);
        if (faultNumber != 0) {
            faultPlace = telling.faultAt;
            return refuse(FAULTY);
        }
        now = telling.handOver(now);
        acts.forgetAll();
        marks.forgetAll();
        return answer(now.told.bills);
    }

    public int fault() {
        return faultNumber;
    }

    public int where() {
        return troubleNumber == FAULTY ? faultPlace : NONE;
    }

    // ---- bills, cells

    public int bill(int b, int what) {
        if (!isBill(b)) {
            return refuse(NO_SUCH);
        }
        switch (what) {
            case 0:
                return answer(now.told.kind[b]);
            case 1:
                return answer(now.told.width[b]);
            case 2:
                return answer(now.told.height[b]);
            case 3:
                return answer(now.told.textLength[b]);
            default:
                return refuse(NO_SUCH);
        }
    }

    public int hanging() {
        return hasWall() ? answer(now.count) : refuse(NO_SUCH);
    }

    public int hung(int i, int what) {
        if (!hangs(i)) {
            return refuse(NO_SUCH);
        }
        switch (what) {
            case 0:
                return answer(now.bill[i]);
            case 1:
                return answer(now.told.column[now.corner[i]]);
            case 2:
                return answer(now.told.line[now.corner[i]]);
            case 3:
                return answer(now.by[i]);
            case 4:
                return answer(Integer.bitCount(now.seen[i]));
            default:
                return refuse(NO_SUCH);
        }
    }

    public int shows(int x, int y) {
        int cell = now.told.cellAt(x, y);
        return cell < 0 ? refuse(NO_SUCH) : answer(now.latestAt(cell));
    }

    public int letter(int x, int y) {
        int cell = now.told.cellAt(x, y);
        if (cell < 0) {
            return refuse(NO_SUCH);
        }
        int code = now.codeAt(cell);
        return answer(code == 0 ? NOTHING : code - 1);
    }

    public int under(int i) {
        return hangs(i) ? answer(now.touching(i, 0, i)) : refuse(NO_SUCH);
    }

    public int over(int i) {
        return hangs(i) ? answer(now.touching(i, i + 1, now.count)) : refuse(NO_SUCH);
    }

    public int beneath(int x, int y, int i) {
        int cell = now.told.cellAt(x, y);
        if (cell < 0) {
            return refuse(NO_SUCH);
        }
        int found = now.latestAt(cell, i);
        return found < 0 ? refuse(NONE_THERE) : answer(found);
    }

    // ---- where a bill may go

    public int on(int b, int x, int y) {
        if (!isBill(b)) {
            return refuse(NO_SUCH);
        }
        int corner = now.told.cornerAt(b, x, y);
        if (corner < 0) {
            return refuse(BAD_NUMBER);
        }
        return answer(now.liesOn(now.told.cellsOf(b, corner), now.told.byHang, MAX_HANGING));
    }

    public int may(int b, int x, int y) {
        if (!isBill(b)) {
            return refuse(NO_SUCH);
        }
        int corner = now.told.cornerAt(b, x, y);
        if (corner < 0) {
            return refuse(BAD_NUMBER);
        }
        return answer(now.mayGo(b, corner) ? 1 : 0);
    }

    public int places(int b) {
        if (!isBill(b)) {
            return refuse(NO_SUCH);
        }
        return answer(now.countPlaces(b, now.told.lawOf(b), now.told.byHang));
    }

    public int place(int b, int i) {
        if (!isBill(b)) {
            return refuse(NO_SUCH);
        }
        int corner = now.findPlace(b, i, now.told.lawOf(b), now.told.byHang);
        return corner < 0 ? refuse(NO_SUCH) : answer(corner);
    }

    public int full() {
        return hasWall() ? answer(now.isFull() ? 1 : 0) : refuse(NO_SUCH);
    }

    public int table(int b, int n, boolean hang) {
        if (!isBill(b)) {
            return refuse(NO_SUCH);
        }
        if (n < 0 || n > MAX_TABLE_LAW) {
            return refuse(BAD_NUMBER);
        }
        return answer(now.countPlaces(b, n, hang));
    }

    // ---- acts

    public boolean paste(int b, int x, int y, int rival) {
        if (!isBill(b) || !isRival(rival)) {
            return deny(NO_SUCH);
        }
        int corner = now.told.cornerAt(b, x, y);
        if (corner < 0) {
            return deny(BAD_NUMBER);
        }
        if (now.sheets[rival] <= 0) {
            return deny(NONE_THERE);
        }
        if (!now.mayGo(b, corner)) {
            return deny(NOT_SO);
        }
        acts.keep(now);
        now.put(b, corner, rival);
        now.sheets[rival]--;
        return grant();
    }

    public boolean peel() {
        if (now.count <= now.founders) {
            return deny(NONE_THERE);
        }
        acts.keep(now);
        now.cutTo(now.count - 1);
        return grant();
    }

    public boolean tear(int i) {
        if (!hangs(i)) {
            return deny(NO_SUCH);
        }
        if (i < now.founders) {
            return deny(NOT_SO);
        }
        acts.keep(now);
        now.takeOut(i);
        return grant();
    }

    public boolean scrape() {
        if (!hasWall()) {
            return deny(NO_SUCH);
        }
        acts.keep(now);
        now.cutTo(now.founders);
        return grant();
    }

    public int days(int n) {
        if (!hasWall()) {
            return refuse(NO_SUCH);
        }
        if (n < 1 || n > MAX_DAYS) {
            return refuse(BAD_NUMBER);
        }
        acts.keep(now);
        int all = 0;
        for (int r = 0; r < now.told.rivals; r++) {
            int cells = Integer.bitCount(now.seenOf(r));
            now.paid[r] += n * cells;
            all += cells;
        }
        return answer(all);
    }

    public int rival(int r, int what) {
        if (!isRival(r)) {
            return refuse(NO_SUCH);
        }
        switch (what) {
            case 0:
                return answer(now.sheets[r]);
            case 1:
                return answer(Integer.bitCount(now.seenOf(r)));
            case 2:
                return answer(now.paid[r]);
            default:
                return refuse(NO_SUCH);
        }
    }

    public boolean undo() {
        return acts.takeLatest(now) ? grant() : deny(NONE_THERE);
    }

    // ---- words

    public int reads(int w) {
        return isWord(w) ? answer(now.timesRead(w)) : refuse(NO_SUCH);
    }

    public int readAt(int w) {
        return isWord(w) ? answer(now.firstRead(w)) : refuse(NO_SUCH);
    }

    public int readBy(int w, int i) {
        if (!isWord(w) || i < 0 || i >= now.told.wordLength[w]) {
            return refuse(NO_SUCH);
        }
        int first = now.firstRead(w);
        return first < 0 ? refuse(NONE_THERE) : answer(now.latestAt(first + i));
    }

    public int makes(int b) {
        return isBill(b) ? answer(now.countMaking(b)) : refuse(NO_SUCH);
    }

    // ---- what comes

    public int stays(int b, int x, int y) {
        if (!isBill(b)) {
            return refuse(NO_SUCH);
        }
        int corner = now.told.cornerAt(b, x, y);
        if (corner < 0) {
            return refuse(BAD_NUMBER);
        }
        if (!now.mayGo(b, corner)) {
            return refuse(NOT_SO);
        }
        return answer(rows.staysSeen(now, b, corner));
    }

    public int best(int b) {
        if (!isBill(b)) {
            return refuse(NO_SUCH);
        }
        int corner = rows.bestCorner(now, b);
        return corner < 0 ? refuse(NONE_THERE) : answer(corner);
    }

    public int far(int d) {
        int refusal = rows.refusal(now, d, d);
        return refusal != 0 ? refuse(refusal) : answer(rows.longest);
    }

    public int shortest(int d) {
        int refusal = rows.refusal(now, d, d);
        return refusal != 0 ? refuse(refusal) : answer(rows.shortestRow(now, FOUNDER, d));
    }

    public int wins(int d) {
        int refusal = rows.refusal(now, d, d);
        return refusal != 0 ? refuse(refusal) : answer(rows.nextWins(now, d) ? 1 : 0);
    }

    public int close(int r, int d) {
        if (!isRival(r)) {
            return refuse(NO_SUCH);
        }
        int most = Math.min(d, now.sheets[r]);
        int refusal = rows.refusal(now, d, most);
        return refusal != 0 ? refuse(refusal) : answer(rows.shortestRow(now, r, most));
    }

    public int life(int n, boolean hang) {
        if (!hasWall()) {
            return refuse(NO_SUCH);
        }
        if (n < 0 || n > MAX_TABLE_LAW) {
            return refuse(BAD_NUMBER);
        }
        return answer(rows.liveBy(now, n, hang));
    }

    public int orders() {
        if (!hasWall()) {
            return refuse(NO_SUCH);
        }
        if (now.count - now.founders > MAX_ORDERED) {
            return refuse(NO_ROOM);
        }
        sequences.countAll(now, 0, 0);
        return answer(sequences.total);
    }

    public int ahead(int i, int j) {
        if (!hangs(i) || !hangs(j) || i == j) {
            return refuse(NO_SUCH);
        }
        if (i < now.founders || j < now.founders) {
            return refuse(NOT_SO);
        }
        if (now.count - now.founders > MAX_ORDERED) {
            return refuse(NO_ROOM);
        }
        sequences.countAll(now, i, j);
        return answer(sequences.aheadTotal);
    }

    // ---- marks, what is seen

    public int mark() {
        if (!hasWall()) {
            return refuse(NO_SUCH);
        }
        if (marks.count >= MAX_MARKS) {
            return refuse(NO_ROOM);
        }
        marks.keep(now);
        return answer(marks.count - 1);
    }

    public boolean back(int mark) {
        if (!marks.bring(mark, now)) {
            return deny(NO_SUCH);
        }
        acts.forgetAll();
        return grant();
    }

    public int led(int i) throws NoSuchElementException {
        int found = now.findUnseen(i);
        if (found < 0) {
            throw new NoSuchElementException("there is none such");
        }
        return found;
    }

    public int size(int what) {
        switch (what) {
            case 0:
                return now.told.wide;
            case 1:
                return now.told.high;
            case 2:
                return now.told.law;
            case 3:
                return now.told.byHang ? 1 : 0;
            case 4:
                return now.told.bills;
            case 5:
                return now.told.rivals;
            case 6:
                return now.told.words;
            case 7:
                return now.founders;
            case 8:
                return acts.count;
            case 9:
                return marks.count;
            case 10:
                return tapeSize;
            default:
                return NONE;
        }
    }

    public int trouble() {
        return troubleNumber;
    }

    // ---- what the calls above share

    private int answer(int value) {
        troubleNumber = 0;
        return value;
    }

    private int refuse(int number) {
        troubleNumber = number;
        return NONE;
    }

    private boolean grant() {
        troubleNumber = 0;
        return true;
    }

    private boolean deny(int number) {
        troubleNumber = number;
        return false;
    }

    private void takeFourBytes(int number) {
        for (int shift = 24; shift >= 0; shift -= 8) {
            if (tapeSize < TAPE_ROOM) {
                tape[tapeSize] = (byte) (number >> shift);
                tapeSize++;
            }
        }
    }

    private boolean hasWall() {
        return now.told.wide > 0;
    }

    private boolean isBill(int b) {
        return b >= 0 && b < now.told.bills;
    }

    private boolean isRival(int r) {
        return r >= 0 && r < now.told.rivals;
    }

    private boolean isWord(int w) {
        return w >= 0 && w < now.told.words;
    }

    private boolean hangs(int i) {
        return i >= 0 && i < now.count;
    }

    /** What a text tells and nothing changes afterwards: sizes, the law, bills, words. */
    private static final class Told {
        /** 0 as long as there is no wall. */
        int wide;
        int high;
        int law;
        boolean byHang;
        int bills;
        int rivals;
        int words;
        final int[] kind = new int[MAX_BILLS];
        final int[] width = new int[MAX_BILLS];
        final int[] height = new int[MAX_BILLS];
        final int[] textLength = new int[MAX_BILLS];
        /** The cells of a bill in the wall's upper left corner, as bits by the cells' numbers. */
        private final int[] shape = new int[MAX_BILLS];
        /** The upper left cells with which all of a bill is on the wall, as bits. */
        private final int[] corners = new int[MAX_BILLS];
        /** The letters of each row of a bill, its leftmost lowest; and the bits they take. */
        final long[] inked = new long[MAX_BILLS * MAX_HIGH];
        final long[] inkedBits = new long[MAX_BILLS];
        final long[] word = new long[MAX_WORDS];
        private final long[] wordBits = new long[MAX_WORDS];
        final int[] wordLength = new int[MAX_WORDS];
        /** Of each cell its x and its y. */
        final int[] column = new int[MAX_CELLS];
        final int[] line = new int[MAX_CELLS];

        void clear() {
            wide = 0;
            high = 0;
            law = 0;
            byHang = false;
            bills = 0;
            rivals = 0;
            words = 0;
        }

        void setWall(int wallWide, int wallHigh, int number, boolean hang) {
            wide = wallWide;
            high = wallHigh;
            law = number;
            byHang = hang;
            for (int cell = 0; cell < MAX_CELLS && wide > 0; cell++) {
                column[cell] = cell % wide;
                line[cell] = cell / wide;
            }
        }

        void addBill(int billKind, int w, int h, long text, int length) {
            if (bills >= MAX_BILLS || length <= 0) {
                return;
            }
            int b = bills;
            kind[b] = billKind;
            width[b] = w;
            height[b] = h;
            textLength[b] = length;
            shape[b] = block(w, h);
            corners[b] = block(wide - w + 1, high - h + 1);
            inkedBits[b] = lettersBits(w);
            for (int row = 0; row < h && row < MAX_HIGH; row++) {
                inked[b * MAX_HIGH + row] = inkedRow(w, row, text, length);
            }
            bills++;
        }

        private int block(int w, int h) {
            int top = (1 << w) - 1;
            int cells = 0;
            for (int row = 0; row < h; row++) {
                cells |= top << (wide * row);
            }
            return cells;
        }

        private static long inkedRow(int w, int row, long text, int length) {
            long letters = 0;
            for (int x = 0; x < w && length > 0; x++) {
                int number = (w * row + x) % length;
                letters |= (long) codeIn(text, number) << (LETTER_BITS * x);
            }
            return letters;
        }

        void addWord(long letters, int length) {
            if (words >= MAX_WORDS) {
                return;
            }
            word[words] = letters;
            wordBits[words] = lettersBits(length);
            wordLength[words] = length;
            words++;
        }

        int cellAt(int x, int y) {
            return x < 0 || x >= wide || y < 0 || y >= high ? NONE : wide * y + x;
        }

        /** The upper left cell of a bill at x, y; NONE if it would be beyond the wall. */
        int cornerAt(int b, int x, int y) {
            int cell = cellAt(x, y);
            return cell >= 0 && fits(b, cell) ? cell : NONE;
        }

        boolean fits(int b, int corner) {
            return (corners[b] >>> corner & 1) != 0;
        }

        int cellsOf(int b, int corner) {
            return shape[b] << corner;
        }

        int cells() {
            return wide * high;
        }

        /** On how many a bill has to lie. */
        int lawOf(int b) {
            return kind[b] == TORN ? law + 1 : law;
        }

        /** How often a word stands in a row of letters. */
        int timesIn(long letters, int w) {
            int times = 0;
            for (int x = 0; x + wordLength[w] <= wide; x++) {
                if ((letters >>> (LETTER_BITS * x) & wordBits[w]) == word[w]) {
                    times++;
                }
            }
            return times;
        }

        /** The x from which a word stands in a row of letters first; NONE if it doesn't. */
        int firstIn(long letters, int w) {
            for (int x = 0; x + wordLength[w] <= wide; x++) {
                if ((letters >>> (LETTER_BITS * x) & wordBits[w]) == word[w]) {
                    return x;
                }
            }
            return NONE;
        }

        private static long lettersBits(int length) {
            return (1L << (LETTER_BITS * length)) - 1;
        }

        static int codeIn(long letters, int number) {
            return (int) (letters >>> (LETTER_BITS * number)) & LETTER_MASK;
        }
    }

    /** What hangs, with the rivals' sheets and pay, and what the law says of it. */
    private static final class Hung {
        Told told = new Told();
        int count;
        int founders;
        private int lasts;
        final int[] bill = new int[MAX_HANGING];
        final int[] corner = new int[MAX_HANGING];
        final int[] by = new int[MAX_HANGING];
        final int[] cells = new int[MAX_HANGING];
        final int[] seen = new int[MAX_HANGING];
        final int[] sheets = new int[MAX_RIVALS];
        final int[] paid = new int[MAX_RIVALS];
        private final long[] letters = new long[MAX_HIGH];
        /** Letters are put together only when they are asked for: most walls have no wording. */
        private boolean lettersKnown;

        void clear() {
            told.clear();
            count = 0;
            founders = 0;
            for (int r = 0; r < MAX_RIVALS; r++) {
                sheets[r] = 0;
                paid[r] = 0;
            }
            look();
        }

        /** What hangs there hangs here too; sheets and pay are no matter of trials. */
        void hangAs(Hung other) {
            told = other.told;
            count = other.count;
            founders = other.founders;
            lasts = other.lasts;
            lettersKnown = false;
            System.arraycopy(other.bill, 0, bill, 0, MAX_HANGING);
            System.arraycopy(other.corner, 0, corner, 0, MAX_HANGING);
            System.arraycopy(other.by, 0, by, 0, MAX_HANGING);
            System.arraycopy(other.cells, 0, cells, 0, MAX_HANGING);
            System.arraycopy(other.seen, 0, seen, 0, MAX_HANGING);
        }

        void put(int b, int upperLeft, int whose) {
            if (count >= MAX_HANGING) {
                return;
            }
            int own = told.cellsOf(b, upperLeft);
            for (int i = 0; i < count; i++) {
                seen[i] &= ~own;
            }
            bill[count] = b;
            corner[count] = upperLeft;
            by[count] = whose;
            cells[count] = own;
            seen[count] = own;
            count++;
            lasts += told.kind[b] == LAST ? 1 : 0;
            lettersKnown = false;
        }

        void cutTo(int size) {
            if (size >= 0 && size <= count) {
                count = size;
                look();
            }
        }

        void takeOut(int gone) {
            for (int i = Math.max(gone, 0); i + 1 < count; i++) {
                bill[i] = bill[i + 1];
                corner[i] = corner[i + 1];
                by[i] = by[i + 1];
                cells[i] = cells[i + 1];
            }
            cutTo(count - 1);
        }

        private void look() {
            int covered = 0;
            lasts = 0;
            for (int i = count - 1; i >= 0; i--) {
                seen[i] = cells[i] & ~covered;
                covered |= cells[i];
                lasts += told.kind[bill[i]] == LAST ? 1 : 0;
            }
            lettersKnown = false;
        }

        void writeTo(int[] kept) {
            kept[0] = count;
            System.arraycopy(sheets, 0, kept, KEPT_SHEETS, MAX_RIVALS);
            System.arraycopy(paid, 0, kept, KEPT_PAID, MAX_RIVALS);
            for (int i = 0; i < count; i++) {
                int place = bill[i] * MAX_CELLS + corner[i];
                kept[KEPT_HUNG + i] = place * (MAX_RIVALS - FOUNDER) + by[i] - FOUNDER;
            }
        }

        void readFrom(int[] kept) {
            count = Math.max(0, Math.min(kept[0], MAX_HANGING));
            System.arraycopy(kept, KEPT_SHEETS, sheets, 0, MAX_RIVALS);
            System.arraycopy(kept, KEPT_PAID, paid, 0, MAX_RIVALS);
            for (int i = 0; i < count; i++) {
                int place = kept[KEPT_HUNG + i] / (MAX_RIVALS - FOUNDER);
                by[i] = kept[KEPT_HUNG + i] % (MAX_RIVALS - FOUNDER) + FOUNDER;
                bill[i] = place / MAX_CELLS;
                corner[i] = place % MAX_CELLS;
                cells[i] = told.cellsOf(bill[i], corner[i]);
            }
            look();
        }

        int latestAt(int cell) {
            int found = latestAt(cell, 0);
            return found < 0 ? NOTHING : found;
        }

        /** The number-th of those at a cell, the latest first; NONE if there are fewer. */
        int latestAt(int cell, int number) {
            int left = number;
            for (int i = count - 1; i >= 0; i--) {
                if ((cells[i] >>> cell & 1) != 0) {
                    if (left == 0) {
                        return i;
                    }
                    left--;
                }
            }
            return NONE;
        }

        /** Which of those from one number up to another have a cell in common with one, as bits. */
        int touching(int one, int from, int to) {
            int bits = 0;
            for (int i = from; i < to && i < count; i++) {
                if ((cells[i] & cells[one]) != 0) {
                    bits |= 1 << i;
                }
            }
            return bits;
        }

        int findUnseen(int number) {
            int left = number;
            for (int i = 0; i < count; i++) {
                if (seen[i] == 0) {
                    if (left == 0) {
                        return i;
                    }
                    left--;
                }
            }
            return NONE;
        }

        /** The cells that show a rival's, as bits. */
        int seenOf(int whose) {
            int bits = 0;
            for (int i = 0; i < count; i++) {
                if (by[i] == whose) {
                    bits |= seen[i];
                }
            }
            return bits;
        }

        boolean isAllOf(int whose) {
            return Integer.bitCount(seenOf(whose)) == told.cells();
        }

        /** On how many the cells would lie; once they are more than enough, any such number. */
        int liesOn(int own, boolean hang, int enough) {
            int found = 0;
            for (int i = 0; i < count && found <= enough; i++) {
                if (((hang ? cells[i] : seen[i]) & own) != 0) {
                    found++;
                }
            }
            return found;
        }

        boolean mayGo(int b, int upperLeft) {
            return couldGo(b, upperLeft, told.lawOf(b), told.byHang);
        }

        /** Whether a bill may go somewhere if it has to lie on just so many. */
        boolean couldGo(int b, int upperLeft, int number, boolean hang) {
            if (lasts > 0 || count >= MAX_HANGING || !told.fits(b, upperLeft)) {
                return false;
            }
            if (liesOn(told.cellsOf(b, upperLeft), hang, number) != number) {
                return false;
            }
            return told.kind[b] != WORDING || readsMoreWith(b, upperLeft);
        }

        int countPlaces(int b, int number, boolean hang) {
            int places = 0;
            for (int cell = 0; cell < told.cells(); cell++) {
                if (couldGo(b, cell, number, hang)) {
                    places++;
                }
            }
            return places;
        }

        int countMaking(int b) {
            int places = 0;
            for (int cell = 0; cell < told.cells(); cell++) {
                if (mayGo(b, cell) && readsMoreWith(b, cell)) {
                    places++;
                }
            }
            return places;
        }

        /** The which-th place at which a bill could go, by its upper left cell; NONE if there is none. */
        int findPlace(int b, int which, int number, boolean hang) {
            int left = which;
            for (int cell = 0; cell < told.cells(); cell++) {
                if (couldGo(b, cell, number, hang)) {
                    if (left == 0) {
                        return cell;
                    }
                    left--;
                }
            }
            return NONE;
        }

        boolean isFull() {
            for (int b = 0; b < told.bills; b++) {
                for (int cell = 0; cell < told.cells(); cell++) {
                    if (mayGo(b, cell)) {
                        return false;
                    }
                }
            }
            return true;
        }

        private void knowLetters() {
            if (lettersKnown) {
                return;
            }
            for (int line = 0; line < MAX_HIGH; line++) {
                letters[line] = 0;
            }
            for (int i = 0; i < count; i++) {
                int b = bill[i];
                int top = told.line[corner[i]];
                int shift = LETTER_BITS * told.column[corner[i]];
                for (int row = 0; row < told.height[b] && top + row < MAX_HIGH; row++) {
                    long kept = letters[top + row] & ~(told.inkedBits[b] << shift);
                    letters[top + row] = kept | told.inked[b * MAX_HIGH + row] << shift;
                }
            }
            lettersKnown = true;
        }

        int codeAt(int cell) {
            knowLetters();
            return Told.codeIn(letters[told.line[cell]], told.column[cell]);
        }

        int timesRead(int w) {
            knowLetters();
            int times = 0;
            for (int line = 0; line < told.high; line++) {
                times += told.timesIn(letters[line], w);
            }
            return times;
        }

        int firstRead(int w) {
            knowLetters();
            for (int line = 0; line < told.high; line++) {
                int x = told.firstIn(letters[line], w);
                if (x >= 0) {
                    return told.wide * line + x;
                }
            }
            return NOTHING;
        }

        /** Whether some word is read more often behind a pasting: only the bill's rows can differ. */
        boolean readsMoreWith(int b, int upperLeft) {
            knowLetters();
            int top = told.line[upperLeft];
            int shift = LETTER_BITS * told.column[upperLeft];
            boolean more = false;
            for (int w = 0; !more && w < told.words; w++) {
                int gain = 0;
                for (int row = 0; row < told.height[b] && top + row < MAX_HIGH; row++) {
                    long old = letters[top + row];
                    long kept = old & ~(told.inkedBits[b] << shift);
                    long fresh = kept | told.inked[b * MAX_HIGH + row] << shift;
                    gain += told.timesIn(fresh, w) - told.timesIn(old, w);
                }
                more = gain > 0;
            }
            return more;
        }
    }

    /** States that are kept, the oldest giving way to the newest when there is no room. */
    private static final class Shelf {
        private final int[][] kept;
        private int oldest;
        int count;

        Shelf(int room) {
            kept = new int[Math.max(room, 1)][KEPT_SIZE];
        }

        void forgetAll() {
            oldest = 0;
            count = 0;
        }

        void keep(Hung hung) {
            if (count < kept.length) {
                count++;
            } else {
                oldest = oldest + 1 < kept.length ? oldest + 1 : 0;
            }
            hung.writeTo(kept[slot(count - 1)]);
        }

        boolean takeLatest(Hung hung) {
            if (!bring(count - 1, hung)) {
                return false;
            }
            count--;
            return true;
        }

        boolean bring(int number, Hung hung) {
            if (number < 0 || number >= count) {
                return false;
            }
            hung.readFrom(kept[slot(number)]);
            return true;
        }

        private int slot(int number) {
            int slot = oldest + number;
            return slot < kept.length ? slot : slot - kept.length;
        }
    }

    /** The tokens of a text, one after the other. */
    private static final class Tokens {
        private byte[] text = new byte[0];
        private int end;
        private int next;
        int sort;
        int place;
        int length;
        /** Of a word its letters' codes, the first one lowest. */
        long letters;
        /** Of a whole what it tells. */
        int number;

        void start(byte[] bytes, int size) {
            text = bytes;
            end = Math.min(size, bytes.length);
            next = 0;
            step();
        }

        void step() {
            while (next < end && text[next] == ' ') {
                next++;
            }
            place = next;
            length = 0;
            if (next >= end) {
                sort = AT_END;
            } else if (isLetter(next)) {
                takeWord();
            } else if (isDigit(next)) {
                takeWhole();
            } else {
                takeSign();
            }
        }

        private boolean isLetter(int at) {
            return text[at] >= 'a' && text[at] <= 'z';
        }

        private boolean isDigit(int at) {
            return text[at] >= '0' && text[at] <= '9';
        }

        private void takeWord() {
            letters = 0;
            for (; next < end && isLetter(next); next++) {
                if (length < MAX_LETTERS) {
                    letters |= (long) (text[next] - 'a' + 1) << (LETTER_BITS * length);
                }
                length++;
            }
            sort = length <= MAX_LETTERS ? A_WORD : NO_TOKEN;
        }

        private void takeWhole() {
            number = 0;
            for (; next < end && isDigit(next); next++) {
                if (length < MAX_DIGITS) {
                    number = number * 10 + text[next] - '0';
                }
                length++;
            }
            sort = length <= MAX_DIGITS ? A_WHOLE : NO_TOKEN;
        }

        private void takeSign() {
            sort = text[next] == ';' ? SEMICOLON : text[next] == ',' ? COMMA : NO_TOKEN;
            next++;
        }

        boolean isThe(String wanted) {
            if (sort != A_WORD || length != wanted.length()) {
                return false;
            }
            for (int i = 0; i < wanted.length(); i++) {
                if (Told.codeIn(letters, i) != wanted.charAt(i) - 'a' + 1) {
                    return false;
                }
            }
            return true;
        }

        boolean isName() {
            return sort == A_WORD && !isThe("wall") && !isThe("bill") && !isThe("rival")
                && !isThe("founder") && !isThe("word") && !isThe("paste");
        }
    }

    /** Reads a text into a wall, up to the first fault. Its steps answer whether they met none. */
    private static final class Telling {
        private final Tokens tokens = new Tokens();
        private final long[] billName = new long[MAX_BILLS];
        private final long[] rivalName = new long[MAX_RIVALS];
        /** A wall of its own, so that the wall that is stays if the text has a fault. */
        private Hung hung = new Hung();
        private Told told = hung.told;
        private int pastes;
        private int fault;
        int faultAt;
        /** What the latest step took: a whole, a kind, the number of a bill or a rival. */
        private int taken;
        private long takenLetters;
        private int takenLength;

        int readText(byte[] text, int size) {
            hung.clear();
            pastes = 0;
            fault = 0;
            tokens.start(text, size);
            boolean more = true;
            for (int lines = 0; more && lines <= size; lines++) {
                if (tokens.isThe("wall")) {
                    more = readWall();
                } else if (tokens.isThe("bill")) {
                    more = readBill();
                } else if (tokens.isThe("rival")) {
                    more = readRival();
                } else if (tokens.isThe("word")) {
                    more = readWord();
                } else if (tokens.isThe("founder")) {
                    more = readFounder();
                } else if (tokens.isThe("paste")) {
                    more = readPaste();
                } else {
                    more = wrong(FORM);
                }
                more = more && goesOn();
            }
            return fault;
        }

        /** Gives the wall that was read for one that is no longer needed. */
        Hung handOver(Hung old) {
            Hung read = hung;
            hung = old;
            told = old.told;
            return read;
        }

        private boolean wrong(int number) {
            fault = number;
            faultAt = tokens.place;
            return false;
        }

        private boolean goesOn() {
            if (tokens.sort == SEMICOLON) {
                tokens.step();
                return true;
            }
            if (tokens.sort != AT_END) {
                return wrong(FORM);
            }
            if (told.bills == 0) {
                return wrong(LACKS);
            }
            return false;
        }

        private boolean readWall() {
            if (told.wide > 0) {
                return wrong(TOLD_AGAIN);
            }
            tokens.step();
            if (!takeKey("wide") || !takeWhole(2, MAX_WIDE)) {
                return false;
            }
            int wide = taken;
            if (!takeKey("high") || !takeWhole(1, MAX_HIGH)) {
                return false;
            }
            int high = taken;
            if (!takeKey("law") || !takeWhole(0, MAX_LAW)) {
                return false;
            }
            boolean hang = tokens.isThe("hang");
            if (!takeKey(hang ? "hang" : "seen")) {
                return false;
            }
            told.setWall(wide, high, taken, hang);
            return true;
        }

        private boolean readBill() {
            if (!takeFirst(told.bills < MAX_BILLS, told.wide > 0) || !takeNewName()) {
                return false;
            }
            long name = takenLetters;
            if (!takeKind()) {
                return false;
            }
            int kind = taken;
            if (!takeKey("wide") || !takeWhole(1, told.wide)) {
                return false;
            }
            int wide = taken;
            if (!takeKey("high") || !takeWhole(1, told.high)) {
                return false;
            }
            int high = taken;
            if (!takeKey("text") || !takeWord()) {
                return false;
            }
            billName[told.bills] = name;
            told.addBill(kind, wide, high, takenLetters, takenLength);
            return true;
        }

        private boolean readRival() {
            if (!takeFirst(told.rivals < MAX_RIVALS, true) || !takeNewName()) {
                return false;
            }
            long name = takenLetters;
            if (!takeKey("sheets") || !takeWhole(0, MAX_SHEETS)) {
                return false;
            }
            rivalName[told.rivals] = name;
            hung.sheets[told.rivals] = taken;
            told.rivals++;
            return true;
        }

        private boolean readWord() {
            if (!takeFirst(told.words < MAX_WORDS, true)) {
                return false;
            }
            if (tokens.sort == A_WORD && find(told.word, told.words) >= 0) {
                return wrong(TOLD_AGAIN);
            }
            if (!takeWord()) {
                return false;
            }
            told.addWord(takenLetters, takenLength);
            return true;
        }

        private boolean readFounder() {
            boolean inTime = told.wide > 0 && pastes == 0;
            if (!takeFirst(hung.founders < MAX_FOUNDERS, inTime) || !takeOldName(billName, told.bills)) {
                return false;
            }
            int b = taken;
            if (!takeCorner(b)) {
                return false;
            }
            hung.put(b, taken, FOUNDER);
            hung.founders++;
            return true;
        }

        private boolean readPaste() {
            if (!takeFirst(pastes < MAX_PASTES, told.wide > 0) || !takeOldName(billName, told.bills)) {
                return false;
            }
            int b = taken;
            if (!takeCorner(b)) {
                return false;
            }
            int corner = taken;
            if (!takeKey("by")) {
                return false;
            }
            int rivalPlace = tokens.place;
            if (!takeOldName(rivalName, told.rivals)) {
                return false;
            }
            if (hung.sheets[taken] <= 0 || !hung.mayGo(b, corner)) {
                fault = MAY_NOT;
                faultAt = rivalPlace;
                return false;
            }
            hung.put(b, corner, taken);
            hung.sheets[taken]--;
            pastes++;
            return true;
        }

        /** A line's first word: whether there is room for the line, and what must come ahead came. */
        private boolean takeFirst(boolean room, boolean inTime) {
            if (!room) {
                return wrong(MANY);
            }
            if (!inTime) {
                return wrong(LACKS);
            }
            tokens.step();
            return true;
        }

        private boolean takeKey(String key) {
            if (!tokens.isThe(key)) {
                return wrong(FORM);
            }
            tokens.step();
            return true;
        }

        private boolean takeWhole(int least, int most) {
            if (tokens.sort != A_WHOLE) {
                return wrong(FORM);
            }
            if (tokens.number < least || tokens.number > most) {
                return wrong(OUT_OF_BOUNDS);
            }
            taken = tokens.number;
            tokens.step();
            return true;
        }

        private boolean takeWord() {
            if (tokens.sort != A_WORD) {
                return wrong(FORM);
            }
            takenLetters = tokens.letters;
            takenLength = tokens.length;
            tokens.step();
            return true;
        }

        private boolean takeKind() {
            taken = tokens.isThe("plain") ? PLAIN : tokens.isThe("torn") ? TORN
                : tokens.isThe("wording") ? WORDING : tokens.isThe("last") ? LAST : NONE;
            if (taken < 0) {
                return wrong(FORM);
            }
            tokens.step();
            return true;
        }

        private boolean takeNewName() {
            if (!tokens.isName()) {
                return wrong(FORM);
            }
            if (find(billName, told.bills) >= 0 || find(rivalName, told.rivals) >= 0) {
                return wrong(TOLD_AGAIN);
            }
            return takeWord();
        }

        private boolean takeOldName(long[] names, int count) {
            if (!tokens.isName()) {
                return wrong(FORM);
            }
            taken = find(names, count);
            if (taken < 0) {
                return wrong(NOT_TOLD);
            }
            tokens.step();
            return true;
        }

        private boolean takeCorner(int b) {
            if (!takeKey("at") || !takeWhole(0, told.wide - told.width[b])) {
                return false;
            }
            int x = taken;
            if (tokens.sort != COMMA) {
                return wrong(FORM);
            }
            tokens.step();
            if (!takeWhole(0, told.high - told.height[b])) {
                return false;
            }
            taken = told.wide * taken + x;
            return true;
        }

        private int find(long[] names, int count) {
            for (int i = 0; i < count && i < names.length; i++) {
                if (names[i] == tokens.letters) {
                    return i;
                }
            }
            return NONE;
        }
    }

    /** Rows of bills that may go one behind the other, tried on a wall of its own. */
    private static final class Rows {
        private final Hung trial = new Hung();
        private int counted;
        /** The length of the longest row, once refusal() has been answered by 0. */
        int longest;

        /** The trouble of a call about rows of up to d bills, of which most matter; 0 if none. */
        int refusal(Hung from, int d, int most) {
            if (from.told.wide <= 0) {
                return NO_SUCH;
            }
            if (d < 1 || d > MAX_ROW) {
                return BAD_NUMBER;
            }
            trial.hangAs(from);
            counted = 0;
            longest = 0;
            return countBehind(0, most) ? 0 : NO_ROOM;
        }

        /** Counts the rows that go on behind one, up to most bills; whether they are not too many. */
        private boolean countBehind(int length, int most) {
            boolean few = true;
            for (int move = 0; few && length < most && move < moves(); move++) {
                if (trial.mayGo(billOf(move), cornerOf(move))) {
                    counted++;
                    longest = Math.max(longest, length + 1);
                    few = counted <= MAX_ROWS;
                    if (few && length + 1 < most) {
                        push(move, FOUNDER);
                        few = countBehind(length + 1, most);
                        pop();
                    }
                }
            }
            return few;
        }

        /**
         * The length of the shortest row behind which each cell shows one of a rival's bills, or,
         * for the founder, behind which it is full; NOTHING if there is none of up to most bills.
         */
        int shortestRow(Hung from, int whose, int most) {
            trial.hangAs(from);
            int found = shortestBehind(whose, 0, most);
            return found > most ? NOTHING : found;
        }

        private int shortestBehind(int whose, int length, int most) {
            if (length > most) {
                return most + 1;
            }
            if (whose == FOUNDER ? trial.isFull() : trial.isAllOf(whose)) {
                return length;
            }
            int least = most + 1;
            for (int move = 0; length + 1 < least && move < moves(); move++) {
                if (trial.mayGo(billOf(move), cornerOf(move))) {
                    push(move, whose);
                    least = shortestBehind(whose, length + 1, least - 1);
                    pop();
                }
            }
            return least;
        }

        boolean nextWins(Hung from, int most) {
            trial.hangAs(from);
            return bringsAbout(true, most);
        }

        /** Whether who began can bring about, with the pastings left, that the other one can't. */
        private boolean bringsAbout(boolean ownTurn, int left) {
            if (left <= 0) {
                return !ownTurn && trial.isFull();
            }
            boolean decided = false;
            for (int move = 0; !decided && move < moves(); move++) {
                if (trial.mayGo(billOf(move), cornerOf(move))) {
                    push(move, FOUNDER);
                    decided = bringsAbout(!ownTurn, left - 1) == ownTurn;
                    pop();
                }
            }
            return decided == ownTurn;
        }

        int staysSeen(Hung from, int b, int corner) {
            trial.hangAs(from);
            trial.put(b, corner, FOUNDER);
            int own = trial.told.cellsOf(b, corner);
            int least = Integer.bitCount(own);
            for (int move = 0; move < moves(); move++) {
                if (trial.mayGo(billOf(move), cornerOf(move))) {
                    int left = own & ~trial.told.cellsOf(billOf(move), cornerOf(move));
                    least = Math.min(least, Integer.bitCount(left));
                }
            }
            return least;
        }

        int bestCorner(Hung from, int b) {
            int best = NONE;
            int most = NONE;
            for (int corner = 0; corner < from.told.cells(); corner++) {
                int stays = from.mayGo(b, corner) ? staysSeen(from, b, corner) : NONE;
                if (stays > most) {
                    most = stays;
                    best = corner;
                }
            }
            return best;
        }

        int liveBy(Hung from, int number, boolean hang) {
            trial.hangAs(from);
            int pasted = 0;
            int before = NONE;
            for (int round = 0; before < pasted && round <= MAX_HANGING; round++) {
                before = pasted;
                for (int b = 0; b < trial.told.bills; b++) {
                    int corner = trial.findPlace(b, 0, number, hang);
                    if (corner >= 0) {
                        trial.put(b, corner, FOUNDER);
                        pasted++;
                    }
                }
            }
            return pasted;
        }

        private int moves() {
            return trial.told.bills * MAX_CELLS;
        }

        private static int billOf(int move) {
            return move / MAX_CELLS;
        }

        private static int cornerOf(int move) {
            return move % MAX_CELLS;
        }

        private void push(int move, int whose) {
            trial.put(billOf(move), cornerOf(move), whose);
        }

        private void pop() {
            trial.cutTo(trial.count - 1);
        }
    }

    /** The orders in which what hangs can have been stuck up, so that it looks as it does. */
    private static final class Orders {
        private final Hung trial = new Hung();
        private Hung looks = trial;
        private int first;
        private int second;
        int total;
        /** In how many of them the first one comes ahead of the second one. */
        int aheadTotal;

        void countAll(Hung from, int one, int another) {
            looks = from;
            first = one;
            second = another;
            total = 0;
            aheadTotal = 0;
            trial.hangAs(from);
            trial.cutTo(from.founders);
            stickUp(0, 0, 0, false);
        }

        /**
         * Nothing may come to lie on a cell that shows one of those stuck up already: so each cell
         * shows the same in the end, and no order that fails is followed to its end.
         */
        private void stickUp(int depth, int stuck, int shown, boolean inOrder) {
            if (depth >= looks.count - looks.founders || depth >= MAX_ORDERED) {
                total++;
                aheadTotal += inOrder ? 1 : 0;
                return;
            }
            for (int i = looks.founders; i < looks.count; i++) {
                boolean free = (stuck >>> i & 1) == 0 && (looks.cells[i] & shown) == 0;
                if (free && trial.mayGo(looks.bill[i], looks.corner[i])) {
                    boolean order = i == second ? (stuck >>> first & 1) != 0 : inOrder;
                    trial.put(looks.bill[i], looks.corner[i], looks.by[i]);
                    stickUp(depth + 1, stuck | 1 << i, shown | looks.seen[i], order);
                    trial.cutTo(trial.count - 1);
                }
            }
        }
    }
}
