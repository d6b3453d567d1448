import java.util.ArrayList;
import java.util.List;
import java.util.Random;

/** Texts of walls, made by chance but always the same ones. */
final class Texts {
    private final Random chance;

    Texts(Random chance) {
        this.chance = chance;
    }

    private int from(int low, int high) {
        return low + chance.nextInt(high - low + 1);
    }

    private String word(int longest, int letters) {
        StringBuilder word = new StringBuilder();
        int length = from(1, longest);
        for (int i = 0; i < length; i++) {
            word.append((char) ('a' + chance.nextInt(letters)));
        }
        return word.toString();
    }

    private String pick(String... ones) {
        return ones[chance.nextInt(ones.length)];
    }

    /** A text without a fault, but perhaps for a paste that may not be, or a word told again. */
    String wall(int wide, int high, int mostPastes) {
        List<String> lines = new ArrayList<>();
        int law = chance.nextInt(3) == 0 ? from(0, 4) : from(0, 2);
        lines.add("wall wide " + wide + " high " + high + " law " + law + pick(" seen", " hang"));
        int bills = from(1, 4);
        int[] w = new int[bills];
        int[] h = new int[bills];
        for (int b = 0; b < bills; b++) {
            w[b] = from(1, Math.min(wide, chance.nextInt(3) == 0 ? wide : 3));
            h[b] = from(1, Math.min(high, chance.nextInt(3) == 0 ? high : 2));
            lines.add("bill " + "stuv".charAt(b) + " " + pick("plain", "plain", "torn", "wording", "wording", "last")
                + " wide " + w[b] + " high " + h[b] + " text " + word(4, 3));
        }
        int rivals = from(0, 3);
        for (int r = 0; r < rivals; r++) {
            lines.add("rival " + "pqr".charAt(r) + " sheets " + from(0, chance.nextInt(3) == 0 ? 3 : 20));
        }
        int words = from(0, 6);
        for (int i = 0; i < words; i++) {
            String word = "word " + word(3, 3);
            if (!lines.contains(word)) {
                lines.add(word);
            }
        }
        int founders = from(0, 4);
        for (int i = 0; i < founders; i++) {
            int b = chance.nextInt(bills);
            lines.add("founder " + "stuv".charAt(b) + " at " + from(0, wide - w[b]) + "," + from(0, high - h[b]));
        }
        int pastes = rivals == 0 ? 0 : from(0, mostPastes);
        for (int i = 0; i < pastes; i++) {
            int b = chance.nextInt(bills);
            lines.add("paste " + "stuv".charAt(b) + " at " + from(0, wide - w[b]) + "," + from(0, high - h[b])
                + " by " + "pqr".charAt(chance.nextInt(rivals)));
        }
        return String.join(";", lines);
    }

    /** A text of a wall on which much can go on: most bills are plain, some law can be met. */
    String livelyWall(int wide, int high) {
        List<String> lines = new ArrayList<>();
        int law = from(0, chance.nextInt(4) == 0 ? 3 : 1);
        lines.add("wall wide " + wide + " high " + high + " law " + law + pick(" seen", " seen", " hang"));
        int bills = from(2, 4);
        for (int b = 0; b < bills; b++) {
            lines.add("bill " + "stuv".charAt(b) + " " + pick("plain", "plain", "plain", "torn", "wording", "last")
                + " wide " + from(1, Math.min(wide, 3)) + " high " + from(1, Math.min(high, 3))
                + " text " + word(4, 2));
        }
        for (int r = 0; r < 2; r++) {
            lines.add("rival " + "pqr".charAt(r) + " sheets " + from(10, 20));
        }
        lines.add("word ab");
        lines.add("word " + pick("a", "b", "bb", "bab"));
        int founders = law == 0 ? from(0, 1) : from(law, 4);
        for (int i = 0; i < founders; i++) {
            lines.add("founder " + pick("s", "t") + " at " + pick("0", "0", "1") + "," + pick("0", "0", "1"));
        }
        return String.join(";", lines);
    }

    /** The same text with some faults in it, perhaps. */
    String spoilt(String text) {
        StringBuilder s = new StringBuilder(text);
        int times = from(1, 3);
        for (int i = 0; i < times && s.length() > 0; i++) {
            int at = chance.nextInt(s.length());
            switch (chance.nextInt(7)) {
                case 0 -> s.setCharAt(at, pick(" ", ";", ",", "a", "9", "0", "A", "-", "r").charAt(0));
                case 1 -> s.deleteCharAt(at);
                case 2 -> s.insert(at, pick(" ", ";", ",", "a", "7", "0", "\n", "\u00e9", "word", "999", " wall "));
                case 3 -> s.setLength(at);
                case 4 -> swapLines(s);
                case 5 -> doubleLine(s);
                default -> otherToken(s);
            }
        }
        return s.toString();
    }

    private void swapLines(StringBuilder s) {
        String[] lines = s.toString().split(";", -1);
        int i = chance.nextInt(lines.length);
        int j = chance.nextInt(lines.length);
        String line = lines[i];
        lines[i] = lines[j];
        lines[j] = line;
        s.setLength(0);
        s.append(String.join(";", lines));
    }

    private void doubleLine(StringBuilder s) {
        List<String> lines = new ArrayList<>(List.of(s.toString().split(";", -1)));
        String line = lines.get(chance.nextInt(lines.size()));
        int times = from(1, 5);
        for (int i = 0; i < times; i++) {
            lines.add(from(0, lines.size()), line);
        }
        s.setLength(0);
        s.append(String.join(pick(";", " ; "), lines));
    }

    private void otherToken(StringBuilder s) {
        String[] tokens = s.toString().split("(?<=[ ;,])|(?=[ ;,])");
        tokens[chance.nextInt(tokens.length)] = pick("s", "t", "p", "q", "bill", "paste", "founder", "word", "rival",
            "wall", "x", "0", "1", "2", "9", "21", "000", "plain", "torn", "abcdefgh", "abcdefghi", "1000", ";", ",");
        s.setLength(0);
        s.append(String.join("", tokens));
    }
}
