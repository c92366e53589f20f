import java.lang.reflect.Constructor;
import java.lang.reflect.Field;
import java.lang.reflect.Method;
import java.lang.reflect.Modifier;
import java.nio.file.Files;
import java.nio.file.Path;
import java.util.ArrayList;
import java.util.Arrays;
import java.util.Comparator;
import java.util.List;
import java.util.Set;
import java.util.TreeSet;
import java.util.regex.Matcher;
import java.util.regex.Pattern;

/**
 * The face is the document's and nothing else; calls make no objects, as a run's room is small; and no call
 * throws, whatever the numbers and however many calls there were. Run it in the project's folder.
 */
public final class EndMetersFace {
    private static final String[] FACE = {
        "int lines(int)", "int way(int,int)", "int sum(int,int)", "int over(int,int)", "int on(int,boolean)",
        "int bad(int,boolean)", "int back()", "int told(int,int)", "int count(int)", "int fits()",
        "long bound(int,int,int)", "long shown(int,int,int,int)", "int settled(int)", "int known(int)",
        "int group(int)", "int lying(int)", "int offer(int)", "int offered(int,int)", "int advice(int)",
        "int sick(int)", "long pair(int,int,int,int,int,int)", "EndMeters()",
        "NONE=-1", "UNKNOWN=-101", "OUTSIDE=-102", "STATE=-103", "FULL=-104", "ENDLESS=-105"};
    /** The calls in the document's order, and what the interface says ahead of them. */
    private static final String[] SECTIONS = {
        "---- the net", "lines", "way", "sum", "over", "on", "bad", "back", "told", "count",
        "---- what lies within", "fits", "bound", "shown", "settled", "known", "group",
        "---- meters that lie, ways to add", "lying", "offer", "offered", "advice",
        "---- sick lines, shares", "sick", "pair"};
    private static int wrong = 0;

    public static void main(String[] args) throws Exception {
        checkFace();
        checkSections();
        checkNothingIsShared();
        checkRoom();
        checkNothingIsThrown();
        System.out.println(wrong == 0 ? "the face is the document's, calls make no objects and throw nothing" : wrong + " faults");
        if (wrong != 0) {
            System.exit(1);
        }
    }

    private static void must(boolean holds, String what) {
        if (!holds) {
            wrong++;
            System.out.println("not so: " + what);
        }
    }

    private static void checkFace() throws Exception {
        must(Modifier.isPublic(EndMeters.class.getModifiers()), "EndMeters is public");
        must(Modifier.isFinal(EndMeters.class.getModifiers()), "EndMeters is final");
        Set<String> found = new TreeSet<>();
        Set<String> publicNames = new TreeSet<>();
        for (Method method : EndMeters.class.getDeclaredMethods()) {
            if (!Modifier.isPrivate(method.getModifiers()) && !method.isSynthetic()) {
                must(method.getModifiers() == Modifier.PUBLIC, method + " is just public");
                found.add(method.getReturnType() + " " + method.getName() + types(method.getParameterTypes()));
                publicNames.add(method.getName());
            }
        }
        for (Constructor<?> made : EndMeters.class.getDeclaredConstructors()) {
            if (!Modifier.isPrivate(made.getModifiers())) {
                must(made.getModifiers() == Modifier.PUBLIC, made + " is just public");
                found.add("EndMeters" + types(made.getParameterTypes()));
            }
        }
        for (Field field : EndMeters.class.getDeclaredFields()) {
            if (!Modifier.isPrivate(field.getModifiers())) {
                must(field.getModifiers() == (Modifier.PUBLIC | Modifier.STATIC | Modifier.FINAL), field + " is a constant");
                must(field.getType() == int.class, field + " is an int");
                found.add(field.getName() + "=" + field.get(null));
            }
        }
        must(found.equals(new TreeSet<>(Set.of(FACE))), "the face is " + found);
        checkHiddenNames(publicNames);
    }

    private static void checkHiddenNames(Set<String> publicNames) {
        for (Method method : EndMeters.class.getDeclaredMethods()) {
            boolean hidden = Modifier.isPrivate(method.getModifiers());
            must(!hidden || !publicNames.contains(method.getName()), "a name of its own: " + method);
        }
        for (Class<?> inside : EndMeters.class.getDeclaredClasses()) {
            must(Modifier.isStatic(inside.getModifiers()), inside + " is static");
            for (Method method : inside.getDeclaredMethods()) {
                must(!publicNames.contains(method.getName()), "a name of its own: " + method);
            }
        }
    }

    private static void checkSections() throws Exception {
        String source = Files.readString(Path.of("src/main/java/EndMeters.java"));
        List<String> found = new ArrayList<>();
        Matcher part = Pattern.compile("    // (---- .*)|    public (?:int|long) (\\w+)\\(.*").matcher("");
        for (String line : source.split("\n")) {
            if (part.reset(line).matches()) {
                found.add(part.group(1) != null ? part.group(1) : part.group(2));
            }
        }
        must(found.equals(List.of(SECTIONS)), "the calls and what stands ahead of them: " + found);
    }

    /** What belongs to all objects never changes. */
    private static void checkNothingIsShared() {
        List<Class<?>> classes = new ArrayList<>(List.of(EndMeters.class.getDeclaredClasses()));
        classes.add(EndMeters.class);
        for (Class<?> one : classes) {
            for (Field field : one.getDeclaredFields()) {
                boolean isConstant = Modifier.isFinal(field.getModifiers()) && field.getType().isPrimitive();
                must(!Modifier.isStatic(field.getModifiers()) || isConstant, "shared by all objects: " + field);
            }
        }
    }

    private static String types(Class<?>[] types) {
        StringBuilder text = new StringBuilder("(");
        for (int i = 0; i < types.length; i++) {
            text.append(i == 0 ? "" : ",").append(types[i]);
        }
        return text.append(")").toString();
    }

    /** Looks at what the thread has been given since it began, if this machine tells it. */
    private static void checkRoom() {
        if (!(java.lang.management.ManagementFactory.getThreadMXBean() instanceof com.sun.management.ThreadMXBean bean)
                || !bean.isThreadAllocatedMemorySupported()) {
            return;
        }
        EndMeters[] some = new EndMeters[20];
        for (int i = 0; i < some.length; i++) {
            some[i] = new EndMeters();
            useAll(some[i]);
        }
        long before = bean.getCurrentThreadAllocatedBytes();
        long empty = bean.getCurrentThreadAllocatedBytes() - before;
        before = bean.getCurrentThreadAllocatedBytes();
        for (EndMeters x : some) {
            useAll(x);
        }
        long made = bean.getCurrentThreadAllocatedBytes() - before - empty;
        must(made < 1000, "calls make no objects, but " + made + " bytes were made");
        before = bean.getCurrentThreadAllocatedBytes();
        some[0] = new EndMeters();
        made = bean.getCurrentThreadAllocatedBytes() - before - empty;
        must(made < 30000, "an object is small, but " + made + " bytes were made");
    }

    private static int wild(int turn) {
        int[] numbers = {0, 1, 2, 3, 4, 5, 6, 7, 8, 9, 10, 11, 15, 31, 32, 33, 64, 1022, 1023, 1024, 100000, 100001, 1000000,
            1000001, -1, -2, -10, -32, -1024, Integer.MIN_VALUE, Integer.MIN_VALUE + 1, Integer.MAX_VALUE, Integer.MAX_VALUE - 1};
        long mixed = (turn + 1) * 6364136223846793005L;
        return numbers[(int) ((mixed >>> 33) % numbers.length)];
    }

    /** One that is thrown ends the test by itself. Far more calls than an object is promised to answer. */
    private static void checkNothingIsThrown() throws Exception {
        EndMeters x = new EndMeters();
        Method[] methods = EndMeters.class.getDeclaredMethods();
        Arrays.sort(methods, Comparator.comparing(Method::toString));
        int turn = 0;
        for (int call = 0; call < 200000; call++) {
            Method method = methods[(call * 31 + call / 977) % methods.length];
            if (Modifier.isPublic(method.getModifiers())) {
                Object[] arguments = new Object[method.getParameterCount()];
                for (int i = 0; i < arguments.length; i++) {
                    int number = wild(turn++);
                    if (method.getParameterTypes()[i] == boolean.class) {
                        arguments[i] = number % 2 == 0;
                    } else {
                        arguments[i] = number;
                    }
                }
                method.invoke(x, arguments);
            }
        }
    }

    private static void useAll(EndMeters x) {
        x.lines(10);
        for (int i = 0; i < 10; i++) {
            x.way(1 + (i * 397 + 101) % 1023, i * 7 % 5);
            x.bad(i, i % 3 == 0);
            x.offer(1 + (i * 211 + 7) % 1023);
        }
        x.sum(0, 3);
        x.over(1, 6);
        x.lying(-1);
        x.on(9, false);
        x.on(8, false);
        x.offered(0, 1);
        for (int what = 0; what < 9; what++) {
            x.count(what);
            x.told(what, what % 4);
        }
        x.advice(1023);
        x.lying(-1);
        x.sick(-1);
        x.fits();
        for (int i = 0; i < 6; i++) {
            x.back();
        }
        x.bound(3, 1, 0);
        x.shown(3, 0, 9, 1);
        x.settled(1);
        x.known(1);
        x.group(1);
        x.pair(10, 9, 8, 7, 0, 0);
    }
}
