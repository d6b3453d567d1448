import java.lang.reflect.InvocationTargetException;
import java.lang.reflect.Method;
import java.lang.reflect.Modifier;
import java.util.Arrays;
import java.util.Map;
import java.util.NoSuchElementException;
import java.util.TreeMap;

/** A CoverTwo whose calls are made by name, and counted: nothing is promised behind the 512th. */
final class Driven {
    /** Stands for the answer of a call that throws NoSuchElementException. */
    static final int THROWN = -1000;
    static final Map<String, Method> CALLS = face();
    static final int MOST_CALLS = 512;
    /** How many calls a look makes, so that there is room for it behind some others. */
    private static final int LOOK_CALLS = 380;
    private final CoverTwo x = new CoverTwo();
    private int made;
    private int lookEnd;

    private static Map<String, Method> face() {
        Map<String, Method> calls = new TreeMap<>();
        for (Method method : CoverTwo.class.getDeclaredMethods()) {
            if (Modifier.isPublic(method.getModifiers())) {
                calls.put(method.getName(), method);
            }
        }
        return calls;
    }

    /** One that has been told a text without a fault. */
    static Driven of(String text) {
        Driven driven = new Driven();
        if (driven.tell(text) < 0) {
            throw new IllegalArgumentException("fault " + driven.ask("fault") + " at " + driven.ask("where") + ": " + text);
        }
        return driven;
    }

    /** One with so many that hang, all in the same two cells, pasted by turns; the first one is the founder's. */
    static Driven stack(int hanging) {
        Driven x = of("wall wide 2 high 1 law 1 seen;bill f plain wide 2 high 1 text a;rival p sheets 20"
            + ";rival q sheets 20;founder f at 0,0");
        for (int i = 1; i < hanging; i++) {
            x.act("paste", 0, 0, 0, i % 2);
        }
        return x;
    }

    int calls() {
        return made;
    }

    int ask(String call, Object... arguments) {
        made++;
        if (made > MOST_CALLS) {
            throw new IllegalStateException("nothing is promised behind the 512th call");
        }
        try {
            Object answer = CALLS.get(call).invoke(x, arguments);
            return answer instanceof Boolean yes ? (yes ? 1 : 0) : (Integer) answer;
        } catch (InvocationTargetException e) {
            if (e.getCause() instanceof NoSuchElementException) {
                return THROWN;
            }
            throw new IllegalStateException(call + " threw", e.getCause());
        } catch (IllegalAccessException e) {
            throw new IllegalStateException(call, e);
        }
    }

    /** A call told as a row: its name, then its arguments. */
    int askRow(Object... call) {
        return ask((String) call[0], Arrays.copyOfRange(call, 1, call.length));
    }

    /** Makes a call that must not be refused. */
    Driven act(String call, Object... arguments) {
        int answer = ask(call, arguments);
        if (answer < 0 || answer == 0 && isYesNo(call)) {
            throw new IllegalStateException(call + " was refused by " + ask("trouble"));
        }
        return this;
    }

    Driven times(int times, String call, Object... arguments) {
        for (int i = 0; i < times; i++) {
            act(call, arguments);
        }
        return this;
    }

    static boolean isYesNo(String call) {
        return CALLS.get(call).getReturnType() == boolean.class;
    }

    Driven feed(String text) {
        for (int i = 0; i < text.length(); i += 20) {
            ask("feed", Check.four(text, i), Check.four(text, i + 4), Check.four(text, i + 8),
                Check.four(text, i + 12), Check.four(text, i + 16));
        }
        return this;
    }

    int tell(String text) {
        return feed(text).ask("wall", text.length());
    }

    /** All that can be seen of the wall, then of what undoing and going back bring: it is used up then. */
    String look() {
        lookEnd = made + LOOK_CALLS;
        StringBuilder seen = new StringBuilder();
        for (int what = 0; what <= 9; what++) {
            seen.append(ask("size", what)).append(' ');
        }
        lookAtWall(seen, 4);
        lookAtCells(seen, ask("size", 0), ask("size", 1));
        while (looksOn() && ask("undo") == 1) {
            lookAtWall(seen.append("\nundone "), 3);
        }
        for (int mark = 0; looksOn() && ask("back", mark) == 1; mark++) {
            lookAtWall(seen.append("\nback ").append(mark).append(' '), 3);
        }
        return seen.toString();
    }

    private boolean looksOn() {
        return made < lookEnd;
    }

    private void lookAtWall(StringBuilder seen, int most) {
        int hanging = ask("hanging");
        seen.append(hanging).append(" hang: ");
        for (int i = 0; i < hanging && looksOn(); i++) {
            for (int what = 0; what <= most; what++) {
                seen.append(ask("hung", i, what)).append(',');
            }
            seen.append(' ');
        }
        for (int r = 0; r < 3 && looksOn() && ask("rival", r, 0) >= 0; r++) {
            seen.append(ask("rival", r, 0)).append('/').append(ask("rival", r, 2)).append(' ');
        }
    }

    private void lookAtCells(StringBuilder seen, int wide, int high) {
        for (int cell = 0; cell < wide * high && looksOn(); cell++) {
            seen.append(ask("shows", cell % wide, cell / wide)).append(':');
            seen.append(ask("letter", cell % wide, cell / wide)).append(' ');
        }
    }
}
