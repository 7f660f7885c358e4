import java.lang.reflect.Constructor;
import java.lang.reflect.Field;
import java.lang.reflect.Method;
import java.lang.reflect.Modifier;
import java.util.Arrays;
import java.util.Set;
import java.util.TreeSet;

/** The public face, as the document has it, and nothing beside it. */
public final class FaceTest {
    private static final Check CHECK = new Check();

    private static final String[] METHODS = {
        "int type(long, int)", "int clear()", "int pump()", "int told(int)", "int strokes(int)", "int jug(int)",
        "int hours(int)", "int now(int)", "int anew()", "int until()", "int least(int)", "int night(int)",
        "int sign(int, int, int)", "int unsign()", "int chance(int, int)", "int fitting(int)", "int odds(int, int)",
        "int tells()", "int where(int, int)", "int day(int, int)", "int pace(int)", "int two(int, int, int, int)",
        "int rests(int, int)", "int cost(int, int)", "int choice(int, int)", "int sand(int, int)", "int line(int)",
        "int year(int, int)", "long ahead(int, int)", "int mark(int, int)", "int keep(int)", "int back(int)",
        "int count(int)", "long trace()"};

    public static void main(String[] args) throws ReflectiveOperationException {
        CHECK.yes("YardPump is final", Modifier.isFinal(YardPump.class.getModifiers()));
        CHECK.yes("YardPump is public", Modifier.isPublic(YardPump.class.getModifiers()));
        constants();
        constructors();
        methods();
        CHECK.end("FaceTest");
    }

    private static void constants() throws ReflectiveOperationException {
        CHECK.due("BAD", YardPump.BAD, -1);
        CHECK.due("STATE", YardPump.STATE, -2);
        CHECK.due("FULL", YardPump.FULL, -3);
        CHECK.due("NONE", YardPump.NONE, -9);
        CHECK.due("NO", YardPump.NO, -1000000);
        CHECK.due("NEVER", YardPump.NEVER, -1000000000000000000L);
        Set<String> shown = new TreeSet<>();
        for (Field field : YardPump.class.getDeclaredFields()) {
            int is = field.getModifiers();
            if (Modifier.isPrivate(is)) continue;
            CHECK.yes(field.getName() + " is a public constant",
                Modifier.isPublic(is) && Modifier.isStatic(is) && Modifier.isFinal(is));
            shown.add(field.getType() + " " + field.getName());
        }
        Set<String> want = new TreeSet<>(Arrays.asList(
            "int BAD", "int STATE", "int FULL", "int NONE", "int NO", "long NEVER"));
        CHECK.yes("the constants are " + shown, shown.equals(want));
    }

    private static void constructors() {
        Constructor<?>[] all = YardPump.class.getDeclaredConstructors();
        CHECK.due("constructors", all.length, 1);
        CHECK.due("what the constructor takes", all[0].getParameterCount(), 0);
        CHECK.yes("the constructor is public", Modifier.isPublic(all[0].getModifiers()));
    }

    private static void methods() {
        Set<String> shown = new TreeSet<>();
        Set<String> names = new TreeSet<>();
        for (Method method : YardPump.class.getDeclaredMethods()) {
            if (Modifier.isPrivate(method.getModifiers())) continue;
            CHECK.yes(method.getName() + " is public and of the object",
                Modifier.isPublic(method.getModifiers()) && !Modifier.isStatic(method.getModifiers()));
            String takes = Arrays.toString(method.getParameterTypes());
            shown.add(method.getReturnType() + " " + method.getName() + "(" + takes.substring(1, takes.length() - 1) + ")");
            names.add(method.getName());
        }
        Set<String> want = new TreeSet<>(Arrays.asList(METHODS));
        CHECK.yes("the methods are " + shown, shown.equals(want));
        privateNames(YardPump.class, names);
        for (Class<?> inside : YardPump.class.getDeclaredClasses()) {
            CHECK.yes(inside + " is static", Modifier.isStatic(inside.getModifiers()));
            privateNames(inside, names);
        }
    }

    private static void privateNames(Class<?> type, Set<String> names) {
        for (Method method : type.getDeclaredMethods()) {
            if (type == YardPump.class && Modifier.isPublic(method.getModifiers())) continue;
            CHECK.yes(method.getName() + " of " + type + " bears no public name", !names.contains(method.getName()));
        }
    }
}
