/** What the tests share: answers that are due, and texts that are fed. */
final class Check {
    private int wrong;

    void due(String call, long got, long want) {
        if (got != want) {
            wrong++;
            if (wrong <= 50) {
                System.out.println(call + " answered " + got + ", due is " + want);
            }
        }
    }

    void due(String call, boolean got, boolean want) {
        due(call, got ? 1 : 0, want ? 1 : 0);
    }

    void end() {
        if (wrong > 0) {
            System.out.println(wrong + " answers are not as due");
            System.exit(1);
        }
        System.out.println("all answers are as due");
    }

    /** Four of a text's bytes, blanks behind its end, the first one highest. */
    static int four(String text, int from) {
        int number = 0;
        for (int i = from; i < from + 4; i++) {
            number = number << 8 | (i < text.length() ? text.charAt(i) & 255 : ' ');
        }
        return number;
    }

    static void feed(CoverTwo x, String text) {
        for (int i = 0; i < text.length(); i += 20) {
            x.feed(four(text, i), four(text, i + 4), four(text, i + 8), four(text, i + 12), four(text, i + 16));
        }
    }

    static int tell(CoverTwo x, String text) {
        feed(x, text);
        return x.wall(text.length());
    }

    static CoverTwo told(String text) {
        CoverTwo x = new CoverTwo();
        int bills = tell(x, text);
        if (bills < 0) {
            throw new IllegalArgumentException("fault " + x.fault() + " at " + x.where() + " of: " + text);
        }
        return x;
    }
}
