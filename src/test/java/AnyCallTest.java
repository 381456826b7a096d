import java.lang.reflect.Constructor;
import java.lang.reflect.Field;
import java.lang.reflect.Method;
import java.lang.reflect.Modifier;
import java.util.Arrays;
import java.util.Comparator;
import java.util.Random;
import java.util.Set;
import java.util.TreeSet;

/**
 * Any call with any arguments in any state: none throws, and an object that was asked much answers
 * as one that was asked little. Also the face: the document's members and no other.
 */
public final class AnyCallTest {
    private static final int[] EDGES = {-1, 0, 1, 2, 3, 4, 5, 6, 7, 8, 9, 10, 11, 12, 15, 16, 19, 20, 21, 22, 23, 24,
        29, 30, 31, 39, 40, 41, 59, 60, 61, 99, 100, 101, 102, 110, 140, 141, 290, 292, 400, 402, 590, 592, 600,
        -2, -9, -10, -100, Integer.MAX_VALUE, Integer.MIN_VALUE, Integer.MIN_VALUE + 1, 1 << 16, 1 << 30};
    private static final String[][] TEXTS = {
        {CourtTest.COURT, "", "room 1 9;lady 0 30 0 0 0;glass 0;wind 0 0 9;",
            "room 3 0;room 4 0;room 1 5;room 9 9;" + Check.times(7, "lady 1 9 30 50 25;") + "lady 3 0 60 90 0;rest 1;"},
        {"", "minute;toast;open 0;", Check.times(19, "shut 0;minute;open 0;") + "go 0 0;", Check.times(40, "minute;"),
            "shut 0;sigh 0;sigh 0;tie 0 9;glass 0;minute;minute;glass 40;minute;minute;minute;minute;toast;"},
        {"", "mark 0 40;", "mark 29 30 31 30 29 28 27 26 27 28 29 30 30 30 30 30;"},
        {"", "fell 0 16;stood 1 8;shot 0 30 stood;", "stood 7 1;", Check.times(20, "stood 0 16;") + "shot 7 60 fell;"},
        {"", "owes 0 7 99;owes 7 0 1;owes 3 4 5;", Check.times(30, "owes 6 7 99;")},
        {"", "maid 0 30;", Check.times(5, "maid 0 10;maid 9 30;")},
    };

    private static final Set<String> TELLING = Set.of("feed", "end", "text", "image", "again");

    public static void main(String[] args) throws Exception {
        face();
        Method[] calls = calls();
        Random random = new Random(5);
        for (int round = 0; round < 400; round++) {
            GlassLaces x = new GlassLaces();
            GlassLaces same = new GlassLaces();
            for (int n = 0; n < 500; n++) {
                if (random.nextInt(12) == 0) {
                    int sort = random.nextInt(6);
                    String text = TEXTS[sort][random.nextInt(TEXTS[sort].length)];
                    int at = random.nextInt(3) - 1;
                    Check.feed(x, text);
                    Check.feed(same, text);
                    Check.due("text", x.text(sort, at), same.text(sort, at));
                } else {
                    any(x, same, calls[random.nextInt(calls.length)], random);
                }
            }
        }
        Check.finish();
    }

    private static void any(GlassLaces x, GlassLaces same, Method call, Random random) throws Exception {
        Object[] with = new Object[call.getParameterCount()];
        for (int k = 0; k < with.length; k++) {
            if (call.getParameterTypes()[k] == boolean.class) {
                with[k] = random.nextBoolean();
            } else {
                with[k] = EDGES[random.nextInt(random.nextBoolean() ? 5 : EDGES.length)];
            }
        }
        String told = call.getName() + Arrays.toString(with);
        Object got;
        try {
            got = call.invoke(x, with);
        } catch (ReflectiveOperationException thrown) {
            Check.due(told + " threw " + thrown.getCause() + ": true", true, false);
            return;
        }
        if (TELLING.contains(call.getName()) || random.nextInt(4) == 0) {
            Check.due(told + " of one asked less", got.equals(call.invoke(same, with)), true);
        }
    }

    private static Method[] calls() {
        Method[] calls = Arrays.stream(GlassLaces.class.getDeclaredMethods())
                .filter(call -> Modifier.isPublic(call.getModifiers())).toArray(Method[]::new);
        Arrays.sort(calls, Comparator.comparing(Method::getName));
        Check.due("how many public methods", calls.length, 35);
        return calls;
    }

    private static void face() {
        Set<String> names = new TreeSet<>();
        for (Method method : GlassLaces.class.getDeclaredMethods()) {
            int is = method.getModifiers();
            Check.due(method + " is public or private", Modifier.isPublic(is) || Modifier.isPrivate(is), true);
            if (Modifier.isPublic(is)) {
                Check.due(method + " is no static one", Modifier.isStatic(is), false);
                Check.due(method + " bears a name of its own", names.add(method.getName()), true);
            }
        }
        for (Method method : GlassLaces.class.getDeclaredMethods()) {
            boolean isPrivate = Modifier.isPrivate(method.getModifiers());
            Check.due(method + " bears a public one's name", isPrivate && names.contains(method.getName()), false);
        }
        for (Field field : GlassLaces.class.getDeclaredFields()) {
            boolean isPrivate = Modifier.isPrivate(field.getModifiers());
            Check.due(field + " is private", isPrivate || field.getName().equals("NONE"), true);
        }
        for (Constructor<?> one : GlassLaces.class.getDeclaredConstructors()) {
            Check.due(one + " is public", Modifier.isPublic(one.getModifiers()), true);
        }
        Check.due("the class is final", Modifier.isFinal(GlassLaces.class.getModifiers()), true);
        Check.due("how many classes", GlassLaces.class.getDeclaredClasses().length <= 11, true);
        for (Class<?> inside : GlassLaces.class.getDeclaredClasses()) {
            Check.due(inside + " is static", Modifier.isStatic(inside.getModifiers()), true);
            Check.due(inside + " is public", Modifier.isPublic(inside.getModifiers()), false);
            for (Method method : inside.getDeclaredMethods()) {
                Check.due(method + " bears a public one's name", names.contains(method.getName()), false);
                Check.due(method + " has few parameters", method.getParameterCount() <= 7, true);
            }
        }
    }
}
