import java.lang.reflect.InvocationTargetException;
import java.lang.reflect.Method;
import java.util.Arrays;
import java.util.NoSuchElementException;
import java.util.function.Supplier;
import java.util.function.ToLongFunction;

/** What the tests share: telling texts, and counting answers that are not due. */
final class Checks {
    static final int THROWN = -777;

    private String heading = "";
    private int wrong;
    private int asked;

    void due(String call, long got, long want) {
        asked++;
        if (got != want) {
            wrong++;
            System.out.println(heading + call + " answered " + got + ", due is " + want);
        }
    }

    void due(String call, boolean got, boolean want) {
        due(call, got ? 1 : 0, want ? 1 : 0);
    }

    /** A call that changes nothing, refused or not: behind it all looks as on an object that was not called so. */
    void refused(String call, Supplier<SaltArmy> made, ToLongFunction<SaltArmy> asking, long want) {
        SaltArmy x = made.get();
        due(call, asking.applyAsLong(x), want);
        String got = Looks.at(x);
        String due = Looks.at(made.get());
        asked++;
        if (!got.equals(due)) {
            wrong++;
            System.out.println(heading + call + " changed something:" + Looks.firstOther(got, due));
        }
    }

    void end() {
        System.out.println(asked + " answers, " + wrong + " wrong");
        if (wrong != 0) {
            System.exit(1);
        }
    }

    /** Runs each test of a class by itself: its methods whose names begin with promise, rule or terms. */
    void runAll(Class<?> tests) {
        Method[] methods = tests.getDeclaredMethods();
        Arrays.sort(methods, (a, b) -> a.getName().compareTo(b.getName()));
        int ran = 0;
        for (Method method : methods) {
            if (method.getName().matches("(promise|rule|terms).*")) {
                heading = method.getName() + ": ";
                run(method);
                ran++;
            }
        }
        heading = "";
        System.out.println(ran + " tests of " + tests.getName());
        end();
    }

    private void run(Method method) {
        try {
            method.setAccessible(true);
            method.invoke(null);
        } catch (InvocationTargetException e) {
            due("threw " + e.getCause() + " at " + Arrays.toString(e.getCause().getStackTrace()), 1, 0);
        } catch (IllegalAccessException e) {
            due("can't be called", 1, 0);
        }
    }

    /** Feeds a text behind what the tape has; the answer of the last feed (of none: -5). */
    static int feed(SaltArmy x, String text) {
        int answer = -5;
        for (int from = 0; from < text.length(); from += 20) {
            int[] words = new int[5];
            for (int i = 0; i < 20 && from + i < text.length(); i++) {
                words[i / 4] |= (text.charAt(from + i) & 255) << 24 - i % 4 * 8;
            }
            answer = x.feed(words[0], words[1], words[2], words[3], words[4]);
        }
        return answer;
    }

    static int fault(SaltArmy x, int sort, String text) {
        x.end(0);
        feed(x, text);
        return x.fault(sort);
    }

    static int text(SaltArmy x, int sort, String text) {
        x.end(0);
        feed(x, text);
        return x.text(sort);
    }

    static SaltArmy land(String text) {
        SaltArmy x = new SaltArmy();
        if (text(x, 0, text) < 1) {
            throw new IllegalArgumentException("no land: " + text);
        }
        return x;
    }

    static SaltArmy landWithLaw(String land, String law) {
        SaltArmy x = land(land);
        if (text(x, 1, law) != 0 || !x.law(0)) {
            throw new IllegalArgumentException("no law: " + law);
        }
        return x;
    }

    static SaltArmy landWithOrders(String land, String orders) {
        SaltArmy x = land(land);
        if (text(x, 2, orders) != 0) {
            throw new IllegalArgumentException("no orders: " + orders);
        }
        return x;
    }

    /** THROWN, where the call throws what the document names. */
    static int company(SaltArmy x, int company, int what) {
        try {
            return x.company(company, what);
        } catch (NoSuchElementException e) {
            return THROWN;
        }
    }

    static int grains(SaltArmy x, int company) {
        return company(x, company, 2);
    }

    static String repeat(String text, int times) {
        return text.repeat(times);
    }
}
