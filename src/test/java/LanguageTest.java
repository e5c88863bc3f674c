import java.io.IOException;
import java.lang.management.ManagementFactory;
import java.lang.reflect.Constructor;
import java.lang.reflect.Field;
import java.lang.reflect.InvocationTargetException;
import java.lang.reflect.Method;
import java.lang.reflect.Modifier;
import java.nio.charset.StandardCharsets;
import java.nio.file.Files;
import java.nio.file.Path;
import java.util.ArrayList;
import java.util.Arrays;
import java.util.List;
import java.util.NoSuchElementException;
import java.util.Set;
import java.util.TreeSet;
import java.util.regex.Matcher;
import java.util.regex.Pattern;

/** The rules of ../shared/LANGUAGE.md, as far as they can be seen from the file, its classes and its calls. */
public final class LanguageTest {
    private static final Checks c = new Checks();
    private static final int[] NUMBERS = {Integer.MIN_VALUE, -1000000, -2, -1, 0, 1, 2, 3, 8, 12, 64, 99, 255, Integer.MAX_VALUE};
    private static final Pattern MEMBER = Pattern.compile("(?m)^ +(?:[a-z]+ )*[\\w\\[\\]]+ ?\\w*\\(([^()]*)\\)(?: throws \\w+)? \\{$");

    private static String file;
    /** Without comments and without what stands in texts and signs. */
    private static String code;

    public static void main(String[] args) throws IOException {
        String path = System.getProperty("salt.source", "src/main/java/SaltArmy.java");
        file = Files.readString(Path.of(path), StandardCharsets.ISO_8859_1);
        code = file.replaceAll("(?s)/\\*.*?\\*/", "").replaceAll("(?m)//.*$", "")
            .replaceAll("\"[^\"\\n]*\"", "\"\"").replaceAll("'[^'\\n]+'", "' '");
        c.runAll(LanguageTest.class);
    }

    private static int times(String pattern) {
        Matcher matcher = Pattern.compile(pattern).matcher(code);
        int found = 0;
        while (matcher.find()) {
            found++;
        }
        return found;
    }

    private static void none(String what, String pattern) {
        c.due(what, times(pattern), 0);
    }

    /** What follows the pattern's start is one of these. */
    private static void only(String start, String... names) {
        Set<String> allowed = new TreeSet<>(Arrays.asList(names));
        Matcher matcher = Pattern.compile(start + "(\\w+)").matcher(code);
        while (matcher.find()) {
            c.due(matcher.group() + " is allowed", allowed.contains(matcher.group(1)), true);
        }
    }

    private static List<Class<?>> classes() {
        List<Class<?>> all = new ArrayList<>(Arrays.asList(SaltArmy.class.getDeclaredClasses()));
        all.add(SaltArmy.class);
        return all;
    }

    private static void rule01OneFileOneClass() {
        none("package line", "(?m)^package\\b");
        c.due("classes beside one another", times("(?m)^(public |final |abstract )*(class|enum|interface|record)\\b"), 1);
        for (Class<?> inside : SaltArmy.class.getDeclaredClasses()) {
            c.due("static: " + inside, Modifier.isStatic(inside.getModifiers()), true);
            c.due("private: " + inside, Modifier.isPrivate(inside.getModifiers()), true);
        }
    }

    private static void rule02NoLambda() {
        none("lambda", "->");
        none("method reference", "::");
        for (Class<?> one : classes()) {
            c.due("within a method: " + one, one.isLocalClass() || one.isAnonymousClass(), false);
        }
    }

    private static void rule03And04Names() {
        Set<String> allowed = new TreeSet<>(Arrays.asList("String", "StringBuilder", "Integer", "Long", "Math", "System",
            "Arrays", "ArrayList", "List", "Iterator", "Iterable", "Comparable", "NoSuchElementException"));
        for (Class<?> one : classes()) {
            allowed.add(one.getSimpleName());
        }
        Matcher matcher = Pattern.compile("\\b[A-Z]\\w*[a-z]\\w*\\b").matcher(code);
        while (matcher.find()) {
            c.due("name " + matcher.group(), allowed.contains(matcher.group()), true);
        }
        none("rows of rows of rows", "\\[\\]\\[\\]\\[\\]");
        only("(?m)^import java\\.util\\.", "Arrays", "ArrayList", "List", "Iterator", "NoSuchElementException");
        c.due("imports of java.util alone", times("(?m)^import "), times("(?m)^import java\\.util\\.\\w+;"));
        only("\\bMath\\.", "min", "max", "abs", "floorDiv", "floorMod");
        only("\\bSystem\\.", "arraycopy");
        only("\\bArrays\\.", "fill", "copyOf", "copyOfRange");
        for (char sign : file.toCharArray()) {
            if (sign > 126 || sign < 32 && sign != '\n') {
                c.due("sign " + (int) sign, 1, 0);
            }
        }
    }

    private static void rule05StaticFieldsAreConstants() {
        Set<Class<?>> types = Set.of(int.class, long.class, boolean.class, char.class, String.class,
            int[].class, long[].class, char[].class, byte[].class);
        for (Class<?> one : classes()) {
            for (Field field : one.getDeclaredFields()) {
                if (Modifier.isStatic(field.getModifiers()) && !field.isSynthetic()) {
                    c.due("final: " + field, Modifier.isFinal(field.getModifiers()), true);
                    c.due("a constant's type: " + field, types.contains(field.getType()), true);
                }
            }
        }
        none("static block", "\\bstatic \\{");
    }

    private static void rule06Exceptions() {
        c.due("throws", times("\\bthrow\\b"), times("\\bthrow new NoSuchElementException\\(\\);"));
        c.due("told throws", times("\\bthrows\\b"), 1);
        none("words", "\\b(catch|try|finally|synchronized|assert|native|volatile|transient)\\b");
        none("casts and kinds", "\\binstanceof\\b|\\b(equals|hashCode|toString|getClass)\\(");
    }

    private static void rule09LoopsWithAnEnd() {
        none("loops without an end", "while \\(true\\)|for \\(;|; ;|;;");
        c.due("each while has a bound", times("\\bwhile \\("), times("\\bwhile \\([^\\n]* < "));
    }

    private static void rule10TextsAreNotJoinedByPlus() {
        none("joined texts", "\"\" ?\\+|\\+ ?\"\"");
    }

    private static void rule11Sizes() {
        c.due("some twelve classes", classes().size() <= 12, true);
        for (Class<?> one : classes()) {
            int fields = 0;
            for (Field field : one.getDeclaredFields()) {
                fields += Modifier.isStatic(field.getModifiers()) ? 0 : 1;
            }
            c.due("some twenty fields of " + one + ": " + fields, fields <= 20, true);
            for (Method method : one.getDeclaredMethods()) {
                c.due("seven parameters: " + method, method.getParameterCount() <= 7, true);
            }
            for (Constructor<?> constructor : one.getDeclaredConstructors()) {
                c.due("seven parameters: " + constructor, constructor.getParameterCount() <= 7, true);
            }
        }
        for (String[] method : methods()) {
            c.due("some sixty lines: " + method[0], method[1].split("\n").length <= 62, true);
        }
    }

    /** Of each method and constructor its first line and all that it is. */
    private static List<String[]> methods() {
        List<String[]> all = new ArrayList<>();
        Matcher matcher = MEMBER.matcher(code);
        while (matcher.find()) {
            int at = matcher.end();
            for (int open = 1; open > 0 && at < code.length(); at++) {
                open += code.charAt(at) == '{' ? 1 : code.charAt(at) == '}' ? -1 : 0;
            }
            all.add(new String[] {matcher.group().trim(), code.substring(matcher.start(), at)});
        }
        return all;
    }

    private static void rule12NothingIsMadeButByConstructors() {
        Set<String> names = new TreeSet<>();
        for (Class<?> one : classes()) {
            names.add(one.getSimpleName());
        }
        int seen = 0;
        for (String[] method : methods()) {
            Matcher name = Pattern.compile("(\\w+)\\(").matcher(method[0]);
            boolean makes = Pattern.compile("(?<!throw )\\bnew\\b|\\.clone\\(|substring|toCharArray|copyOf").matcher(method[1]).find();
            c.due("made by " + method[0], makes && name.find() && !names.contains(name.group(1)), false);
            seen++;
        }
        c.due("methods are found", seen > 100, true);
    }

    private static long allocated() {
        return ((com.sun.management.ThreadMXBean) ManagementFactory.getThreadMXBean()).getThreadAllocatedBytes(Thread.currentThread().getId());
    }

    /** The dearest calls of all, on one object, and what they make on the heap. */
    private static int dearCalls(SaltArmy x) {
        int sum = 0;
        for (int i = 0; i < 20; i++) {
            sum += x.ambush(0, 2, 0) + x.waits(0, 2, 1) + x.best(0, 2, 0, 0) + x.rained(0, 1, -1) + x.pickets(6, 1, 0, 9);
            sum += x.stock(6, 9) + x.war(48, i) + x.perform(0) + x.run(0, 1) + x.image() + x.undo() + x.back() + x.hears(3);
            sum += x.feed(0x703b703b, 0x63000000, 0, 0, 0) + x.fault(0) + x.fault(1) + x.fault(2) + x.log(0, 0);
            sum += x.end(0) ? 1 : 0;
        }
        return sum;
    }

    private static void rule12CallsMakeNothing() {
        dearCalls(Scenes.busy());
        SaltArmy x = Scenes.busy();
        long ahead = allocated();
        dearCalls(x);
        long made = allocated() - ahead;
        c.due("380 calls made " + made + " bytes", made < 20000, true);
        ahead = allocated();
        SaltArmy y = new SaltArmy();
        made = allocated() - ahead;
        c.due("an object is " + made + " bytes", made < 400000 && y.count(0) == 0, true);
    }

    private static void rule13NothingFromOutside() {
        only("\\bjava\\.", "util");
        String first = answers(3);
        answers(4);
        c.due("the same calls answer the same", answers(3).equals(first), true);
        c.due("two at a time are two", twoAtOnce().equals(first), true);
    }

    private static String answers(int seed) {
        SaltArmy x = Scenes.busy();
        x.war(30, seed);
        return Looks.at(x);
    }

    private static String twoAtOnce() {
        SaltArmy x = Scenes.busy();
        SaltArmy y = Scenes.busy();
        x.war(30, 3);
        y.war(48, 5);
        Checks.text(y, 0, "p;p;p;c");
        y.best(0, 1, 0, 0);
        return Looks.at(x);
    }

    // ---- rule 7: no call throws by itself, with numbers of every size in each place

    private static void rule07NoCallThrowsByItself() throws IllegalAccessException {
        for (Method method : SaltArmy.class.getDeclaredMethods()) {
            if (Modifier.isPublic(method.getModifiers())) {
                callWithAll(method, method.getParameterTypes());
            }
        }
    }

    private static void callWithAll(Method method, Class<?>[] types) throws IllegalAccessException {
        int ints = 0;
        for (Class<?> type : types) {
            ints += type == boolean.class ? 0 : 1;
        }
        long all = 1;
        for (int i = 0; i < ints; i++) {
            all *= NUMBERS.length;
        }
        // Of more than a few thousand rows of numbers each so-manieth.
        long step = all / 3000 + 1;
        for (int land = 0; land < 2; land++) {
            SaltArmy x = new SaltArmy();
            int calls = 0;
            for (long row = 0; row < all; row += step) {
                if (calls % 400 == 0) {
                    x = land == 0 ? Scenes.withoutLand() : Scenes.busy();
                }
                calls++;
                call(x, method, arguments(types, row));
            }
        }
    }

    private static Object[] arguments(Class<?>[] types, long row) {
        Object[] values = new Object[types.length];
        long rest = row;
        for (int i = 0; i < types.length; i++) {
            int number = NUMBERS[(int) (rest % NUMBERS.length)];
            values[i] = types[i] == boolean.class ? (Object) (row % 2 == 0) : types[i] == long.class ? (Object) (long) number : (Object) number;
            rest /= types[i] == boolean.class ? 1 : NUMBERS.length;
        }
        return values;
    }

    private static void call(SaltArmy x, Method method, Object[] values) throws IllegalAccessException {
        try {
            method.invoke(x, values);
        } catch (InvocationTargetException e) {
            boolean isTold = method.getName().equals("company") && e.getCause() instanceof NoSuchElementException;
            if (!isTold) {
                c.due(method.getName() + Arrays.toString(values) + " threw " + e.getCause(), 1, 0);
            }
        }
    }

    /** Texts of any bytes: they have a fault, or none, and then they can be taken. */
    private static void rule07TextsOfAnyBytes() {
        String signs = "pwcf;hkrsabtgmqy:?!()[]|&=<>+-*/ 0123456789jd" + (char) 200;
        long draw = 1;
        SaltArmy x = new SaltArmy();
        for (int text = 0; text < 6000; text++) {
            if (text % 60 == 0) {
                x = Scenes.busy();
            }
            StringBuilder told = new StringBuilder(text % 3 == 0 ? "p;p;c;" : text % 3 == 1 ? "y:" : "");
            draw = draw * 6364136223846793005L + 1442695040888963407L;
            int more = (int) ((draw >>> 33) % 12);
            for (int i = 0; i < more; i++) {
                draw = draw * 6364136223846793005L + 1442695040888963407L;
                told.append(signs.charAt((int) ((draw >>> 33) % signs.length())));
            }
            x.end(0);
            Checks.feed(x, told.toString());
            int length = x.count(6);
            boolean isFull = text % 3 > 0 && x.count(3 + text % 3) == 4;
            int fault = x.fault(text % 3);
            c.due("fault of " + told, fault >= SaltArmy.NONE && fault <= length, true);
            c.due("text of " + told, x.text(text % 3) >= 0, fault == SaltArmy.NONE && !isFull);
        }
    }

    private static void rule08TheDeepestTextsAreReadByASmallStack() throws InterruptedException {
        int[] answers = new int[6];
        Thread small = new Thread(null, () -> deepTexts(answers), "small", 256 * 1024);
        small.start();
        small.join();
        int[] want = {8, 8, 8, SaltArmy.NONE, 0, 5};
        for (int i = 0; i < want.length; i++) {
            c.due("deep text " + i, answers[i], want[i]);
        }
    }

    private static void deepTexts(int[] answers) {
        SaltArmy x = Checks.land("p;p;p;p;p;p;p;p;w;wa1b2;wa2b3;wa3b4;wa4b5;wa5b6;wa6b7;c");
        answers[0] = Checks.fault(x, 1, "y:" + Checks.repeat("[", 238));
        answers[1] = Checks.fault(x, 1, "y:" + Checks.repeat("(", 238));
        answers[2] = Checks.fault(x, 1, "y:" + Checks.repeat("!", 238));
        answers[3] = Checks.fault(x, 1, "y:!(!(![g]=1))?[[[[[[1]]]]]]");
        answers[4] = x.text(1);
        x.law(0);
        answers[5] = x.ambush(0, 7, 7);
    }
}
