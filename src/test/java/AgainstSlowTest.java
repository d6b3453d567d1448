import java.lang.reflect.InvocationTargetException;
import java.lang.reflect.Method;
import java.lang.reflect.Modifier;
import java.util.ArrayList;
import java.util.Arrays;
import java.util.Comparator;
import java.util.List;
import java.util.NoSuchElementException;
import java.util.Random;

/** Runs of chance calls, each answered by the class and by the slow wall: every promise at once. */
public final class AgainstSlowTest {
    private static final int THROWN = 123456789;
    private final Check check = new Check();
    private final Random chance = new Random(20261118);
    private final Texts texts = new Texts(chance);
    private final List<Method> fast = new ArrayList<>();
    private final List<Method> slow = new ArrayList<>();
    private CoverTwo x;
    private SlowWall m;
    private String said;

    public static void main(String[] args) throws Exception {
        AgainstSlowTest test = new AgainstSlowTest();
        test.findCalls();
        for (int run = 0; run < 2500; run++) {
            test.textRun();
        }
        for (int run = 0; run < 600; run++) {
            test.callRun(run);
        }
        test.check.end();
    }

    private void findCalls() throws NoSuchMethodException {
        for (Method method : CoverTwo.class.getDeclaredMethods()) {
            if (Modifier.isPublic(method.getModifiers())) {
                fast.add(method);
            }
        }
        fast.sort(Comparator.comparing(Method::getName));
        for (Method method : fast) {
            slow.add(SlowWall.class.getDeclaredMethod(method.getName(), method.getParameterTypes()));
        }
    }

    private int tellBoth(String text) throws Exception {
        for (int i = 0; i < text.length(); i += 20) {
            both("feed", Check.four(text, i), Check.four(text, i + 4), Check.four(text, i + 8),
                Check.four(text, i + 12), Check.four(text, i + 16));
        }
        return both("wall", text.length());
    }

    private void begin() {
        x = new CoverTwo();
        m = new SlowWall();
        said = "";
    }

    /** Texts, most of them with faults: the fault, its place, and that the wall stays. */
    private void textRun() throws Exception {
        begin();
        for (int i = 0; i < 6; i++) {
            String text = texts.wall(2 + chance.nextInt(7), 1 + chance.nextInt(4), 10);
            text = chance.nextInt(8) == 0 ? text : texts.spoilt(text);
            said = text + ": ";
            tellBoth(text);
            both("fault");
            both("where");
            for (int what = 0; what <= 10; what++) {
                both("size", what);
            }
            both("hanging");
            both("where");
        }
    }

    private void callRun(int run) throws Exception {
        begin();
        int wide = run % 3 == 0 ? 8 : 2 + chance.nextInt(4);
        int high = run % 3 == 0 ? 4 : 1 + chance.nextInt(2);
        boolean lively = run % 4 != 0;
        int bills = -1;
        for (int tries = 0; tries < 200 && (bills < 0 || lively && m.full() == 1); tries++) {
            begin();
            String text = lively ? texts.livelyWall(wide, high) : texts.wall(wide, high, tries < 30 ? 6 : 0);
            bills = tellBoth(text);
            said = text + ": ";
        }
        int pasting = 2 + chance.nextInt(5);
        for (int calls = 0; calls < 200; calls++) {
            if (chance.nextInt(pasting) == 0) {
                pasteSomewhere(wide);
            } else {
                int which = chance.nextInt(fast.size());
                if (!isDear(fast.get(which).getName(), wide * high)) {
                    compare(which, chanceArguments(fast.get(which)));
                }
            }
            both("trouble");
        }
    }

    /** Calls that are too slow for the slow wall, or that would empty the wall again and again. */
    private boolean isDear(String call, int cells) {
        if (call.equals("scrape") || call.equals("back")) {
            return chance.nextInt(6) != 0;
        }
        return cells > 4 && call.matches("far|shortest|wins|close") && chance.nextInt(cells) > 2;
    }

    private void pasteSomewhere(int wide) throws Exception {
        int b = chance.nextInt(Math.max(m.size(4), 1));
        int places = both("places", b);
        if (places > 0) {
            int cell = both("place", b, chance.nextInt(places));
            both("paste", b, cell % wide, cell / wide, chance.nextInt(Math.max(m.size(5), 1)));
        }
    }

    private Object[] chanceArguments(Method method) {
        Object[] arguments = new Object[method.getParameterCount()];
        for (int i = 0; i < arguments.length; i++) {
            if (method.getParameterTypes()[i] == boolean.class) {
                arguments[i] = chance.nextBoolean();
            } else {
                arguments[i] = chanceNumber(method.getName());
            }
        }
        return arguments;
    }

    private int chanceNumber(String call) {
        switch (chance.nextInt(12)) {
            case 0:
                return chance.nextInt(14) - 2;
            case 1:
                return call.equals("days") ? chance.nextInt(34) : chance.nextInt(6);
            case 2:
                return chance.nextInt(6) == 0 ? chance.nextInt() : chance.nextInt(3);
            default:
                return call.matches("hung|under|over|tear|ahead") && chance.nextBoolean()
                    ? m.size(7) + chance.nextInt(8) : chance.nextInt(call.matches("on|may|stays|shows|letter") ? 2 : 4);
        }
    }

    private int both(String call, Object... arguments) throws Exception {
        for (int i = 0; i < fast.size(); i++) {
            if (fast.get(i).getName().equals(call)) {
                return compare(i, arguments);
            }
        }
        throw new IllegalArgumentException(call);
    }

    private int compare(int which, Object[] arguments) throws Exception {
        int want = number(slow.get(which), m, arguments);
        int got = number(fast.get(which), x, arguments);
        String call = fast.get(which).getName() + Arrays.toString(arguments);
        check.due(said + call, got, want);
        if (call.matches("(paste|peel|tear|scrape|undo|back).*") && want == 1) {
            said += call + " ";
        }
        return want;
    }

    private static int number(Method method, Object on, Object[] arguments) throws Exception {
        try {
            Object answer = method.invoke(on, arguments);
            return answer instanceof Boolean b ? (b ? 1 : 0) : (Integer) answer;
        } catch (InvocationTargetException e) {
            if (e.getCause() instanceof NoSuchElementException) {
                return THROWN;
            }
            throw e;
        }
    }
}
