import java.lang.reflect.Constructor;
import java.lang.reflect.Field;
import java.lang.reflect.Method;
import java.lang.reflect.Modifier;
import java.util.ArrayList;
import java.util.Collections;
import java.util.HashSet;
import java.util.List;
import java.util.Set;

/** The public face is the document's, and the class keeps to those rules of LANGUAGE.md that reflection can see. */
public final class FaceTest {
    private static final Check CHECK = new Check("FaceTest");
    private static final String BOUNDS = " throws IndexOutOfBoundsException";
    private static final String ILLEGAL = " throws IllegalArgumentException";
    private static final String BOTH = " throws IndexOutOfBoundsException, IllegalArgumentException";

    private FaceTest() {
    }

    public static void main(String[] args) {
        methods();
        constructorAndConstants();
        noPrivateMethodBearsAPublicName();
        classesInside();
        staticFields(Chamberwright.class);
        for (Class<?> inside : Chamberwright.class.getDeclaredClasses()) {
            staticFields(inside);
        }
        noCallMakesAnything();
        CHECK.endsWell();
    }

    private static void methods() {
        List<String> due = new ArrayList<>(List.of(
                "int line(int, int, int) throws IllegalArgumentException, IllegalStateException",
                "int takeAway(int)" + BOUNDS, "int meets()", "int meet(int, int)" + BOTH,
                "int polynomial(int)" + ILLEGAL, "int polynomialAnew(int)" + ILLEGAL, "int points(int)" + ILLEGAL,
                "int rooms()", "int bounded()", "int room(int, int)" + BOTH, "int roomOf(int)" + ILLEGAL,
                "int corner(int, int)" + BOUNDS, "int galleries(int, int)" + BOUNDS,
                "int gallery(int, int, int)" + BOUNDS, "int project(int, int)" + BOUNDS,
                "int best(int, int, int)" + BOTH, "int reflected(int, int)" + BOUNDS, "boolean isKaleidoscope()",
                "int pairs()", "int pair(int)" + BOUNDS, "int edge(int, int)" + BOTH,
                "int colourings(int)" + ILLEGAL, "int colouringsAnew(int)" + ILLEGAL,
                "int directions()", "int directionsAnew()"));
        List<String> got = new ArrayList<>();
        for (Method method : Chamberwright.class.getDeclaredMethods()) {
            if (!Modifier.isPrivate(method.getModifiers())) {
                CHECK.same(method.getName() + "'s signs", Modifier.toString(method.getModifiers()), "public");
                got.add(told(method));
            }
        }
        Collections.sort(due);
        Collections.sort(got);
        CHECK.same("the methods", got.toString(), due.toString());
    }

    private static String told(Method method) {
        return method.getReturnType().getSimpleName() + " " + method.getName()
                + "(" + names(method.getParameterTypes()) + ")"
                + (method.getExceptionTypes().length > 0 ? " throws " + names(method.getExceptionTypes()) : "");
    }

    private static String names(Class<?>[] types) {
        List<String> names = new ArrayList<>();
        for (Class<?> type : types) {
            names.add(type.getSimpleName());
        }
        return String.join(", ", names);
    }

    private static void constructorAndConstants() {
        CHECK.same("the class", Modifier.toString(Chamberwright.class.getModifiers()), "public final");
        Constructor<?>[] constructors = Chamberwright.class.getDeclaredConstructors();
        CHECK.same("how many constructors", constructors.length, 1);
        CHECK.same("the constructor", Modifier.toString(constructors[0].getModifiers())
                + " (" + names(constructors[0].getParameterTypes()) + ")", "public ()");
        List<String> shown = new ArrayList<>();
        for (Field field : Chamberwright.class.getDeclaredFields()) {
            if (!Modifier.isPrivate(field.getModifiers())) {
                shown.add(Modifier.toString(field.getModifiers()) + " " + field.getType() + " " + field.getName());
            }
        }
        CHECK.same("the constants", shown.toString(), "[public static final int NONE]");
    }

    private static void noPrivateMethodBearsAPublicName() {
        Set<String> open = new HashSet<>();
        for (Method method : Chamberwright.class.getDeclaredMethods()) {
            if (Modifier.isPublic(method.getModifiers())) {
                open.add(method.getName());
            }
        }
        for (Method method : Chamberwright.class.getDeclaredMethods()) {
            CHECK.no("a private " + method.getName() + " beside a public one",
                    Modifier.isPrivate(method.getModifiers()) && open.contains(method.getName()));
            CHECK.yes(method.getName() + " has seven parameters at most", method.getParameterCount() <= 7);
        }
        for (Class<?> inside : Chamberwright.class.getDeclaredClasses()) {
            for (Method method : inside.getDeclaredMethods()) {
                CHECK.no("a private " + method.getName() + " of " + inside.getSimpleName() + " beside a public one",
                        Modifier.isPrivate(method.getModifiers()) && open.contains(method.getName()));
            }
        }
    }

    private static void classesInside() {
        Class<?>[] inside = Chamberwright.class.getDeclaredClasses();
        CHECK.yes("twelve classes at most", inside.length < 12);
        for (Class<?> one : inside) {
            CHECK.yes(one.getSimpleName() + " is static", Modifier.isStatic(one.getModifiers()));
            CHECK.no(one.getSimpleName() + " is public", Modifier.isPublic(one.getModifiers()));
            for (Method method : one.getDeclaredMethods()) {
                CHECK.yes(method.getName() + " has seven parameters at most", method.getParameterCount() <= 7);
            }
        }
    }

    private static void staticFields(Class<?> owner) {
        int own = 0;
        for (Field field : owner.getDeclaredFields()) {
            if (!Modifier.isStatic(field.getModifiers())) {
                own++;
                continue;
            }
            Class<?> type = field.getType();
            CHECK.yes(field.getName() + " is final", Modifier.isFinal(field.getModifiers()));
            CHECK.yes(field.getName() + " is a constant",
                    type == int.class || type == long.class || type == boolean.class || type == int[].class);
        }
        CHECK.yes(owner.getSimpleName() + " has some twenty fields at most", own <= 20);
    }

    /** The rows are made with the object: what the calls make beside would be counted call by call. */
    private static void noCallMakesAnything() {
        java.lang.management.ThreadMXBean bean = java.lang.management.ManagementFactory.getThreadMXBean();
        if (!(bean instanceof com.sun.management.ThreadMXBean)) {
            return;
        }
        com.sun.management.ThreadMXBean counter = (com.sun.management.ThreadMXBean) bean;
        long self = Thread.currentThread().getId();
        Chamberwright[] made = new Chamberwright[20];
        for (int i = 0; i < made.length; i++) {
            made[i] = new Chamberwright();
        }
        askAll(new Chamberwright());
        long before = counter.getThreadAllocatedBytes(self);
        for (Chamberwright x : made) {
            askAll(x);
        }
        // Some bytes for the counter itself; a row of two numbers a call would be thousands.
        CHECK.yes("the calls make nothing", counter.getThreadAllocatedBytes(self) - before < 2000);
    }

    private static int askAll(Chamberwright x) {
        int sum = x.line(1, 2, 3) + x.line(2, -1, 4) + x.line(1, 1, 1) + x.line(0, 1, 1);
        sum += x.meets() + x.meet(0, 3) + x.polynomial(0) + x.polynomialAnew(0) + x.points(7);
        for (int room = 0; room < x.rooms(); room++) {
            sum += x.room(room, 1) + x.room(room, 2) + x.room(room, 3) + x.corner(room, 0);
            sum += x.galleries(room, 0) + x.gallery(room, 0, 2) + x.project(room, 0) + x.best(room, 1, 1);
        }
        sum += x.bounded() + x.roomOf(3) + x.reflected(0, 1) + (x.isKaleidoscope() ? 1 : 0) + x.pairs() + x.pair(1);
        sum += x.edge(0, 1) + x.edge(1, 2) + x.edge(2, 0) + x.colourings(4) + x.colouringsAnew(4);
        sum += x.directions() + x.directionsAnew() + x.edge(0, 1) + x.edge(1, 2) + x.edge(2, 0);
        return sum + x.takeAway(3) + x.takeAway(0) + x.takeAway(1) + x.takeAway(0);
    }
}
