import java.io.IOException;
import java.lang.management.ManagementFactory;
import java.lang.reflect.Constructor;
import java.lang.reflect.Field;
import java.lang.reflect.Method;
import java.lang.reflect.Modifier;
import java.nio.file.Files;
import java.nio.file.Path;
import java.util.Set;
import java.util.TreeSet;
import java.util.regex.Matcher;
import java.util.regex.Pattern;

/** The face of the class, and those rules of LANGUAGE.md that can be seen from outside. */
public final class LanguageTests {
    private static final Checks CHECKS = new Checks();
    private static final Set<String> METHODS = Set.of("int set(int,int)", "int fill(int,int,int)", "int thin(int)",
        "int pour(int,int,int)", "int empty(int)", "int dip(int,int)", "int paint(int)", "int rinse()",
        "int want(int,int,int,int)", "int run()", "int pot(int,int)", "int brush(int)", "int panel(int,int)",
        "int count(int)", "int nearest(int,int)", "int bestThinning(int,int,int)", "int bestMixture(int,int)",
        "int rinses(int)", "int bestOrder(int)", "int put(long)", "int wipe()", "int fault()", "int undo()",
        "int save(int)", "int restore(int)");
    private static final Set<String> CONSTANTS = Set.of("NO_SUCH", "BAD_VALUE", "BAD_TEXT", "TOO_MANY",
        "NOT_POSSIBLE", "NONE", "STROKE", "NEAR");
    private static final String[] RULED_OUT = {"throw", "throws", "try", "catch", "synchronized", "assert", "import",
        "package", "protected", "volatile", "native", "transient", "->", "::", "hashCode", "toString", "Exact\\("};

    public static void main(String[] args) throws IOException {
        face();
        source();
        room();
        CHECKS.end();
    }

    private static void face() {
        Class<?> face = ThinnedPots.class;
        CHECKS.holds("public and final", Modifier.isPublic(face.getModifiers()) && Modifier.isFinal(face.getModifiers()));
        Set<String> methods = new TreeSet<>();
        Set<String> names = new TreeSet<>();
        for (Method method : face.getDeclaredMethods()) {
            if (!Modifier.isPrivate(method.getModifiers())) {
                methods.add(method.toString().replaceAll("public |ThinnedPots\\.", ""));
                names.add(method.getName());
            }
        }
        CHECKS.holds("methods are " + methods, methods.equals(METHODS));
        Set<String> constants = new TreeSet<>();
        for (Field field : face.getDeclaredFields()) {
            if (!Modifier.isPrivate(field.getModifiers())) {
                constants.add(field.getName());
            }
        }
        CHECKS.holds("constants are " + constants, constants.equals(CONSTANTS));
        for (Constructor<?> constructor : face.getDeclaredConstructors()) {
            CHECKS.holds("constructor", Modifier.isPublic(constructor.getModifiers()) && constructor.getParameterCount() == 0);
        }
        namesOfPrivateMethods(face, names);
        for (Class<?> inside : face.getDeclaredClasses()) {
            CHECKS.holds(inside + " is static, not public", Modifier.isStatic(inside.getModifiers())
                && !Modifier.isPublic(inside.getModifiers()) && !Modifier.isProtected(inside.getModifiers()));
            namesOfPrivateMethods(inside, names);
        }
    }

    private static void namesOfPrivateMethods(Class<?> one, Set<String> names) {
        for (Method method : one.getDeclaredMethods()) {
            boolean bad = !(one == ThinnedPots.class && Modifier.isPublic(method.getModifiers()))
                && names.contains(method.getName());
            CHECKS.holds(method + " has a name of its own", !bad);
            CHECKS.holds(method + " takes at most seven", method.getParameterCount() <= 7);
        }
        int fields = 0;
        for (Field field : one.getDeclaredFields()) {
            fields += Modifier.isStatic(field.getModifiers()) ? 0 : 1;
            CHECKS.holds(field + " is no state of all objects",
                !Modifier.isStatic(field.getModifiers()) || Modifier.isFinal(field.getModifiers()));
        }
        CHECKS.holds(one + " has some twenty fields at most", fields <= 20);
    }

    private static void source() throws IOException {
        String text = Files.readString(Path.of("src/main/java/ThinnedPots.java"));
        String code = text.replaceAll("(?s)/\\*.*?\\*/", "").replaceAll("//[^\\n]*", "");
        for (String word : RULED_OUT) {
            String pattern = Character.isLetter(word.charAt(0)) && !word.endsWith("(") ? "\\b" + word + "\\b" : word;
            Matcher found = Pattern.compile(pattern).matcher(code);
            CHECKS.holds("no " + word, !found.find());
        }
        CHECKS.holds("no static block", !Pattern.compile("static\\s*\\{").matcher(code).find());
        Matcher library = Pattern.compile("\\b(System|Math|Arrays|Integer|Long)\\.(\\w+)").matcher(code);
        while (library.find()) {
            CHECKS.holds(library.group() + " may be used", Set.of("System.arraycopy", "Math.abs", "Math.min", "Math.max")
                .contains(library.group()));
        }
    }

    /** The calls use the rows that the constructor made: only save() makes a state, once a slot. */
    private static void room() {
        com.sun.management.ThreadMXBean threads = (com.sun.management.ThreadMXBean) ManagementFactory.getThreadMXBean();
        long self = Thread.currentThread().getId();
        ThinnedPots pots = new ThinnedPots();
        for (int pot = 0; pot < 8; pot++) {
            pots.fill(pot, pot % 4, 5 + pot);
        }
        allCalls(pots);
        long before = threads.getThreadAllocatedBytes(self);
        for (int round = 0; round < 20; round++) {
            allCalls(pots);
        }
        long made = threads.getThreadAllocatedBytes(self) - before;
        CHECKS.holds("500 calls made " + made + " bytes", made < 20_000);
    }

    private static void allCalls(ThinnedPots pots) {
        pots.set(0, 1);
        pots.fill(0, 0, 1);
        pots.thin(1);
        pots.pour(0, 1, 1);
        pots.empty(7);
        pots.dip(2, 1);
        pots.paint(1);
        pots.rinse();
        pots.want(1, 30, 20, 10);
        pots.put(0x302B31723B307221L);
        pots.run();
        pots.pot(1, 5);
        pots.brush(5);
        pots.panel(1, 6);
        pots.count(7);
        pots.nearest(1, 1);
        pots.bestThinning(1, 2, 1);
        pots.bestMixture(1, 4);
        pots.rinses(1);
        pots.bestOrder(3);
        pots.wipe();
        pots.fault();
        pots.undo();
        pots.save(1);
        pots.restore(1);
    }
}
