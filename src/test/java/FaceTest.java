import java.lang.reflect.Constructor;
import java.lang.reflect.Field;
import java.lang.reflect.Method;
import java.lang.reflect.Modifier;
import java.util.Arrays;
import java.util.HashSet;
import java.util.List;
import java.util.Set;

/** The class's face is the document's, and nothing else can be seen of it (LANGUAGE.md, rule 1). */
public final class FaceTest {
    private static final String[] FACE = {
        "int feed(int,int,int,int,int)", "int wall(int)", "int fault()", "int where()", "int bill(int,int)",
        "int hanging()", "int hung(int,int)", "int shows(int,int)", "int letter(int,int)", "int under(int)",
        "int over(int)", "int beneath(int,int,int)", "int on(int,int,int)", "int may(int,int,int)", "int places(int)",
        "int place(int,int)", "int full()", "int table(int,int,boolean)", "boolean paste(int,int,int,int)",
        "boolean peel()", "boolean tear(int)", "boolean scrape()", "int days(int)", "int rival(int,int)",
        "boolean undo()", "int reads(int)", "int readAt(int)", "int readBy(int,int)", "int makes(int)",
        "int stays(int,int,int)", "int best(int)", "int far(int)", "int shortest(int)", "int wins(int)",
        "int close(int,int)", "int life(int,boolean)", "int orders()", "int ahead(int,int)", "int mark()",
        "boolean back(int)", "int led(int)", "int size(int)", "int trouble()"};

    public static void main(String[] args) throws Exception {
        Check check = new Check();
        Class<?> c = CoverTwo.class;
        check.due("public and final", Modifier.isPublic(c.getModifiers()) && Modifier.isFinal(c.getModifiers()), true);
        Set<String> due = new HashSet<>(List.of(FACE));
        Set<String> names = new HashSet<>();
        for (Method method : c.getDeclaredMethods()) {
            if (!Modifier.isPrivate(method.getModifiers())) {
                names.add(method.getName());
                check.due("not in the face: " + told(method), due.remove(told(method)), true);
                check.due("of an object: " + told(method), Modifier.isStatic(method.getModifiers()), false);
            }
        }
        check.due("lacking: " + due, due.size(), 0);
        privateOnes(check, c, names);
        Constructor<?>[] made = c.getDeclaredConstructors();
        check.due("one public constructor", made.length == 1 && Modifier.isPublic(made[0].getModifiers()), true);
        for (Field field : c.getDeclaredFields()) {
            boolean none = field.getName().equals("NONE") && Modifier.isPublic(field.getModifiers());
            check.due("field " + field, none || Modifier.isPrivate(field.getModifiers()), true);
        }
        check.due("NONE", CoverTwo.NONE, -1);
        check.end();
    }

    private static String told(Method method) {
        String[] types = Arrays.stream(method.getParameterTypes()).map(Class::getName).toArray(String[]::new);
        return method.getReturnType() + " " + method.getName() + "(" + String.join(",", types) + ")";
    }

    private static void privateOnes(Check check, Class<?> c, Set<String> names) {
        for (Method method : c.getDeclaredMethods()) {
            if (Modifier.isPrivate(method.getModifiers())) {
                check.due("private " + method.getName(), names.contains(method.getName()), false);
            }
        }
        for (Class<?> inside : c.getDeclaredClasses()) {
            int modifiers = inside.getModifiers();
            check.due(inside + " is seen", Modifier.isPublic(modifiers) || Modifier.isProtected(modifiers), false);
            check.due(inside + " is static", Modifier.isStatic(modifiers), true);
            for (Method method : inside.getDeclaredMethods()) {
                check.due(inside + " " + method.getName(), names.contains(method.getName()), false);
            }
        }
    }
}
