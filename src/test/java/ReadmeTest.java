import java.io.IOException;
import java.lang.reflect.InvocationTargetException;
import java.lang.reflect.Method;
import java.lang.reflect.Modifier;
import java.nio.charset.StandardCharsets;
import java.nio.file.Files;
import java.nio.file.Path;
import java.util.regex.Matcher;
import java.util.regex.Pattern;

/** The calls that README.md shows answer what stands behind them, and it names every call of the face. */
public final class ReadmeTest {
    private static final Checks c = new Checks();
    private static final Pattern CALL = Pattern.compile("(?m)^army\\.(\\w+)\\(([^)]*)\\); +// (-?\\w+)");

    public static void main(String[] args) throws IOException {
        String page = Files.readString(Path.of(System.getProperty("salt.readme", "README.md")), StandardCharsets.UTF_8);
        Matcher matcher = CALL.matcher(page);
        SaltArmy army = new SaltArmy();
        int found = 0;
        while (matcher.find()) {
            String[] values = matcher.group(2).isEmpty() ? new String[0] : matcher.group(2).split(", ");
            String call = matcher.group(1) + "(" + matcher.group(2) + ")";
            c.due(call + ", due is " + matcher.group(3), answer(army, matcher.group(1), values).equals(matcher.group(3)), true);
            found++;
        }
        c.due("calls are found", found > 20, true);
        for (Method method : SaltArmy.class.getDeclaredMethods()) {
            if (Modifier.isPublic(method.getModifiers())) {
                c.due("named: " + method.getName(), page.contains("`" + method.getName() + "`"), true);
            }
        }
        c.end();
    }

    private static String answer(SaltArmy army, String name, String[] values) {
        for (Method method : SaltArmy.class.getDeclaredMethods()) {
            if (method.getName().equals(name) && method.getParameterCount() == values.length) {
                Object[] given = new Object[values.length];
                for (int i = 0; i < given.length; i++) {
                    given[i] = method.getParameterTypes()[i] == boolean.class ? (Object) Boolean.valueOf(values[i])
                        : method.getParameterTypes()[i] == long.class ? (Object) Long.decode(values[i])
                        : (Object) Integer.decode(values[i]);
                }
                try {
                    return String.valueOf(method.invoke(army, given));
                } catch (IllegalAccessException | InvocationTargetException e) {
                    return e.toString();
                }
            }
        }
        return "no such call";
    }
}
