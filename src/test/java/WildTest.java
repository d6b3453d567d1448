import java.lang.reflect.InvocationTargetException;
import java.lang.reflect.Method;
import java.lang.reflect.Modifier;
import java.util.ArrayList;
import java.util.Arrays;
import java.util.Comparator;
import java.util.List;
import java.util.NoSuchElementException;
import java.util.Random;

/** Any arguments in any state: nothing is thrown but what led() throws, and no answer is beneath -2. */
public final class WildTest {
    private static final int[] NUMBERS = {0, 1, 2, 3, 4, 5, 7, 8, 11, 29, 30, 31, 32, 33, 64, 899, 900, 901, -1, -2, -31, -32,
        1 << 16, Integer.MAX_VALUE, Integer.MAX_VALUE - 1, Integer.MIN_VALUE, Integer.MIN_VALUE + 1};

    public static void main(String[] args) throws Exception {
        Check check = new Check();
        Random chance = new Random(44);
        Texts texts = new Texts(chance);
        List<Method> calls = new ArrayList<>();
        for (Method method : CoverTwo.class.getDeclaredMethods()) {
            if (Modifier.isPublic(method.getModifiers())) {
                calls.add(method);
            }
        }
        calls.sort(Comparator.comparing(Method::getName));
        for (int run = 0; run < 300; run++) {
            CoverTwo x = new CoverTwo();
            for (int i = 0; i < 500; i++) {
                if (run % 10 != 0 && i % 100 == 0) {
                    tellSome(x, texts, chance);
                }
                Method call = calls.get(chance.nextInt(calls.size()));
                wildCall(check, x, call, chance);
            }
        }
        check.end();
    }

    private static void tellSome(CoverTwo x, Texts texts, Random chance) {
        x.wall(0);
        int wide = 2 + chance.nextInt(7);
        int high = 1 + chance.nextInt(4);
        Check.tell(x, texts.livelyWall(wide, high));
    }

    private static void wildCall(Check check, CoverTwo x, Method call, Random chance) throws Exception {
        Object[] arguments = new Object[call.getParameterCount()];
        for (int i = 0; i < arguments.length; i++) {
            int number = NUMBERS[chance.nextInt(chance.nextBoolean() ? 4 : NUMBERS.length)];
            arguments[i] = call.getParameterTypes()[i] == boolean.class ? (Object) (number % 2 == 0) : (Object) number;
        }
        String said = call.getName() + Arrays.toString(arguments);
        try {
            Object answer = call.invoke(x, arguments);
            if (answer instanceof Integer number) {
                check.due(said + " is beneath -2", number < -2, false);
            }
        } catch (InvocationTargetException e) {
            boolean due = call.getName().equals("led") && e.getCause().getClass() == NoSuchElementException.class;
            check.due(said + " threw " + e.getCause(), due, true);
        }
        int trouble = x.trouble();
        check.due(said + ": trouble " + trouble, trouble >= 0 && trouble <= 6, true);
    }
}
