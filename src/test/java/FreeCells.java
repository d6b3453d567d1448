/**
 * Rows of bills on a wall where nothing may lie on anything (law 0, by those that hang; plain and last bills
 * alone): all that counts is which cells are free. A second way to the answers, by the document's plain words.
 */
final class FreeCells {
    private final int wide;
    private final int high;
    /** Of each bill how wide, how high, and 1 if it is a last one. */
    private final int[][] bills;

    FreeCells(int wide, int high, int[]... bills) {
        this.wide = wide;
        this.high = high;
        this.bills = bills;
    }

    String text() {
        StringBuilder text = new StringBuilder("wall wide " + wide + " high " + high + " law 0 hang");
        for (int b = 0; b < bills.length; b++) {
            text.append(";bill ").append("abcd".charAt(b)).append(bills[b][2] == 1 ? " last" : " plain");
            text.append(" wide ").append(bills[b][0]).append(" high ").append(bills[b][1]).append(" text a");
        }
        return text.toString();
    }

    /** The cells that a bill takes, or 0 if it can't go there. */
    private int taken(int used, int b, int place) {
        int x = place % wide;
        int y = place / wide;
        if (x + bills[b][0] > wide || y + bills[b][1] > high) {
            return 0;
        }
        int cells = 0;
        for (int i = 0; i < bills[b][0] * bills[b][1]; i++) {
            cells |= 1 << (wide * (y + i / bills[b][0]) + x + i % bills[b][0]);
        }
        return (cells & used) == 0 ? cells : 0;
    }

    /** All is used behind a last one. */
    private int behind(int used, int b, int taken) {
        return bills[b][2] == 1 ? -1 : used | taken;
    }

    int rows(int used, int d) {
        int rows = 0;
        for (int move = 0; d > 0 && move < bills.length * wide * high; move++) {
            int b = move / (wide * high);
            int taken = taken(used, b, move % (wide * high));
            rows += taken == 0 ? 0 : 1 + rows(behind(used, b, taken), d - 1);
        }
        return rows;
    }

    /** The shortest row behind which nothing may go, or d + 1. */
    int shortest(int used, int d) {
        int least = d + 1;
        boolean any = false;
        for (int move = 0; move < bills.length * wide * high; move++) {
            int b = move / (wide * high);
            int taken = taken(used, b, move % (wide * high));
            any |= taken != 0;
            if (taken != 0 && d > 0) {
                least = Math.min(least, 1 + shortest(behind(used, b, taken), d - 1));
            }
        }
        return any ? least : 0;
    }

    /** Whether who is next can bring about, by d pastings at most, that the other one can't paste. */
    boolean wins(int used, int d) {
        for (int move = 0; d > 0 && move < bills.length * wide * high; move++) {
            int b = move / (wide * high);
            int taken = taken(used, b, move % (wide * high));
            if (taken != 0 && loses(behind(used, b, taken), d - 1)) {
                return true;
            }
        }
        return false;
    }

    private boolean loses(int used, int d) {
        boolean any = false;
        for (int move = 0; move < bills.length * wide * high; move++) {
            int b = move / (wide * high);
            int taken = taken(used, b, move % (wide * high));
            any |= taken != 0;
            if (taken != 0 && (d == 0 || !wins(behind(used, b, taken), d - 1))) {
                return false;
            }
        }
        return true;
    }

    /** The shortest row that covers the whole wall, or d + 1. */
    int close(int used, int d) {
        if (Integer.bitCount(used) == wide * high) {
            return 0;
        }
        int least = d + 1;
        for (int move = 0; d > 0 && move < bills.length * wide * high; move++) {
            int b = move / (wide * high);
            int taken = taken(used, b, move % (wide * high));
            boolean on = taken != 0 && (bills[b][2] == 0 || Integer.bitCount(used | taken) == wide * high);
            least = on ? Math.min(least, 1 + close(used | taken, d - 1)) : least;
        }
        return least;
    }
}
