import java.util.Arrays;
import java.util.Set;
import java.util.TreeSet;
import java.util.function.Supplier;

/** What the tests of edges share: each sentence's own test, with what is due just there and beside it. */
final class Edge {
    static final int MOST = Integer.MAX_VALUE;
    static final int LEAST = Integer.MIN_VALUE;
    private static final Set<String> NEVER_REFUSED = Set.of("feed", "fault", "where", "led", "size", "trouble");
    private final Check check = new Check();
    private final Doc doc = Doc.read();
    private final Set<Integer> tested = new TreeSet<>();
    private String sentence = "";

    /** What follows tests these words of a promise. */
    void promise(int number, String words) {
        tested.add(number);
        begin("Promise " + number, words);
    }

    /** What follows tests these words of the terms. */
    void term(String words) {
        begin("Terms", words);
    }

    /** What follows tests these words of what the document says ahead of all. */
    void about(String words) {
        begin("What it is", words);
    }

    private void begin(String heading, String words) {
        sentence = heading + ", \"" + words + "\": ";
        check.due(sentence + "stands there", doc.says(heading, words), true);
    }

    void due(String call, long got, long want) {
        check.due(sentence + call, got, want);
    }

    /** A call on one that goes on: its answer, and that it isn't refused. */
    void is(Driven x, int due, String call, Object... arguments) {
        boolean tellsTrouble = !NEVER_REFUSED.contains(call);
        if (tellsTrouble) {
            x.ask("bill", -1, 0);
        }
        String said = call + Arrays.toString(arguments);
        due(said, x.ask(call, arguments), due);
        if (tellsTrouble) {
            due("trouble of " + said, x.ask("trouble"), 0);
        }
    }

    /** A call on one that goes on: it is refused. */
    void no(Driven x, int trouble, String call, Object... arguments) {
        x.ask(trouble == 1 ? "wall" : "bill", trouble == 1 ? new Object[] {-1} : new Object[] {-1, 0});
        String said = call + Arrays.toString(arguments);
        due(said, x.ask(call, arguments), Driven.isYesNo(call) ? 0 : CoverTwo.NONE);
        due("trouble of " + said, x.ask("trouble"), trouble);
        due("where() behind " + said, x.ask("where"), CoverTwo.NONE);
    }

    /** The first n bytes of its tape have a fault: which one, and where. */
    void faulty(Driven x, int n, int fault, int place) {
        due("wall(" + n + ")", x.ask("wall", n), CoverTwo.NONE);
        due("trouble of wall(" + n + ")", x.ask("trouble"), 4);
        due("fault()", x.ask("fault"), fault);
        due("where()", x.ask("where"), place);
    }

    /** A question to a new one: its answer, that it isn't refused, and that it leaves all as it was. */
    void asked(Supplier<Driven> made, int due, String call, Object... arguments) {
        Driven x = made.get();
        is(x, due, call, arguments);
        stays(made, x, call + Arrays.toString(arguments));
    }

    /** A call of a new one: it is refused, and leaves all as it was. */
    void refused(Supplier<Driven> made, int trouble, String call, Object... arguments) {
        Driven x = made.get();
        no(x, trouble, call, arguments);
        stays(made, x, call + Arrays.toString(arguments));
    }

    /** The same with each of some numbers as the argument at a place. */
    void refusedFor(Supplier<Driven> made, int trouble, int[] numbers, int place, String call, Object... arguments) {
        for (int number : numbers) {
            Object[] with = arguments.clone();
            with[place] = number;
            refused(made, trouble, call, with);
        }
    }

    /** Whether one looks as a new one does, also behind undoing and going back. */
    void stays(Supplier<Driven> made, Driven x, String call) {
        String now = x.look();
        String was = made.get().look();
        due(call + " leaves all as it was:\n" + was + "\n" + now + "\n", now.equals(was) ? 1 : 0, 1);
    }

    /** Each promise of some must have had a sentence tested. */
    void end(int first, int last) {
        for (int number = first; number <= last; number++) {
            check.due("a sentence of promise " + number + " is tested", tested.contains(number), true);
        }
        end();
    }

    void end() {
        check.end();
    }
}
