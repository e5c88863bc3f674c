import java.lang.reflect.Constructor;
import java.lang.reflect.Field;
import java.lang.reflect.InvocationTargetException;
import java.lang.reflect.Method;
import java.lang.reflect.Modifier;
import java.util.Arrays;
import java.util.NoSuchElementException;
import java.util.Random;
import java.util.TreeSet;

/** The face as the document tells it, and calls with numbers of every size: each answers as the model does. */
public final class FaceTest {
    private static final Checks c = new Checks();
    private static final int[] NUMBERS = {Integer.MIN_VALUE, Integer.MIN_VALUE + 1, -1000000, -129, -2, -1, 0, 1, 2, 3, 4, 5,
        6, 7, 8, 9, 12, 16, 24, 31, 32, 33, 63, 64, 99, 100, 255, 256, 65536, 1 << 30, Integer.MAX_VALUE - 1, Integer.MAX_VALUE};
    private static final String[] FACE = {
        "int feed int int int int int", "boolean end int", "int fault int", "int text int", "int spot int int",
        "int way int int", "int company int int", "int foe int int", "boolean law int", "int wear int",
        "int march int int", "int join int int", "int dig int", "int cast int int", "int hour int", "int war int long",
        "int undo", "int log int int", "int step int int int", "int run int int", "int perform int",
        "int sky int int boolean", "int best int int int int", "int journeys int int", "int waits int int int",
        "int ambush int int int", "int pickets int int int int", "int stock int int", "int streak int int",
        "int rained int int int", "int knows int", "int hears int", "int weakest", "int reach int int", "int dry int",
        "int image", "int back", "int count int"};

    public static void main(String[] args) throws Exception {
        face();
        for (int run = 0; run < 60; run++) {
            wildCalls(run);
        }
        c.end();
    }

    private static String told(Method method) {
        StringBuilder text = new StringBuilder(method.getReturnType().getName()).append(' ').append(method.getName());
        for (Class<?> type : method.getParameterTypes()) {
            text.append(' ').append(type.getName());
        }
        return text.toString();
    }

    private static void face() {
        c.due("final", Modifier.isFinal(SaltArmy.class.getModifiers()), true);
        c.due("public", Modifier.isPublic(SaltArmy.class.getModifiers()), true);
        TreeSet<String> want = new TreeSet<>(Arrays.asList(FACE));
        TreeSet<String> names = new TreeSet<>();
        for (String row : FACE) {
            names.add(row.split(" ")[1]);
        }
        TreeSet<String> got = new TreeSet<>();
        for (Method method : SaltArmy.class.getDeclaredMethods()) {
            if (Modifier.isPrivate(method.getModifiers())) {
                c.due("no private method is named " + method.getName(), names.contains(method.getName()), false);
            } else {
                c.due("public: " + method, Modifier.isPublic(method.getModifiers()), true);
                got.add(told(method));
            }
        }
        c.due("methods " + got, got.equals(want), true);
        TreeSet<String> constants = new TreeSet<>();
        for (Field field : SaltArmy.class.getDeclaredFields()) {
            if (!Modifier.isPrivate(field.getModifiers())) {
                constants.add(field.getName());
            }
        }
        c.due("constants " + constants, constants.equals(new TreeSet<>(Arrays.asList("NONE", "HIDDEN"))), true);
        c.due("NONE", SaltArmy.NONE, -1);
        c.due("HIDDEN", SaltArmy.HIDDEN, -1000000);
        Constructor<?>[] constructors = SaltArmy.class.getDeclaredConstructors();
        c.due("one constructor", constructors.length, 1);
        c.due("without parameters", constructors[0].getParameterCount(), 0);
        for (Class<?> inside : SaltArmy.class.getDeclaredClasses()) {
            c.due("static: " + inside, Modifier.isStatic(inside.getModifiers()), true);
            c.due("not public: " + inside, Modifier.isPublic(inside.getModifiers()), false);
        }
    }

    private static long asNumber(Object answer) {
        return answer instanceof Boolean ? ((Boolean) answer ? 1 : 0) : ((Number) answer).longValue();
    }

    private static String call(Object on, Method method, Object[] values) throws Exception {
        try {
            return "" + asNumber(method.invoke(on, values));
        } catch (InvocationTargetException e) {
            if (method.getName().equals("company") && e.getCause() instanceof NoSuchElementException) {
                return "thrown";
            }
            return e.getCause().toString();
        }
    }

    private static void wildCalls(int run) throws Exception {
        Random random = new Random(77 + run);
        SaltArmy x = new SaltArmy();
        Model y = new Model();
        String[] texts = run % 4 == 0 ? new String[0]
            : new String[] {"0p;pk1s3;ph9r99;wt2f3;wa1b2;wa2b0t9;cg99w9q15;cp1m3;cp2g1;f;fp1b9", "1y:g>9?t*t/h;y:w", "2m01;r;w;s0;d1;j01"};
        for (String text : texts) {
            for (int at = 1; at < text.length(); at++) {
                int word = text.charAt(at) << 8;
                c.due("feed", x.feed(0, 0, word, 0, 0), y.feed(0, 0, word, 0, 0));
            }
            c.due("text", x.text(text.charAt(0) - '0'), y.text(text.charAt(0) - '0'));
        }
        Method[] methods = SaltArmy.class.getDeclaredMethods();
        Arrays.sort(methods, (a, b) -> a.getName().compareTo(b.getName()));
        for (int i = 0; i < 300; i++) {
            Method method = methods[random.nextInt(methods.length)];
            if (!Modifier.isPublic(method.getModifiers()) || method.getName().equals("text")) {
                continue;
            }
            Class<?>[] types = method.getParameterTypes();
            Object[] values = new Object[types.length];
            for (int j = 0; j < values.length; j++) {
                int value = random.nextInt(3) == 0 ? NUMBERS[random.nextInt(NUMBERS.length)] : random.nextInt(4) - 1;
                values[j] = types[j] == int.class ? (Object) value : types[j] == long.class ? (Object) random.nextLong() : (Object) random.nextBoolean();
            }
            Method same = Model.class.getDeclaredMethod(method.getName(), types);
            same.setAccessible(true);
            String got = call(x, method, values);
            String want = call(y, same, values);
            if (!got.equals(want)) {
                c.due(method.getName() + Arrays.toString(values) + ": " + got + ", the model: " + want, 1, 0);
            }
        }
    }
}
