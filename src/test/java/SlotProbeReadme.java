import java.lang.reflect.InvocationTargetException;
import java.lang.reflect.Method;
import java.lang.reflect.Modifier;
import java.nio.file.Files;
import java.nio.file.Path;
import java.util.regex.Matcher;
import java.util.regex.Pattern;

/** The calls in README.md, one after the other on one object, answer what stands behind them. */
public final class SlotProbeReadme {

    private static final Pattern CALL =
        Pattern.compile(" {4}probe\\.(\\w+)\\((.*?)\\); *// (throws \\w+|-?[0-9.]+)(:.*)?");
    private static final int FEWEST_CALLS = 20;

    private static int wrong = 0;

    private static void report(String what) {
        wrong++;
        System.out.println(what);
    }

    /** A number, or a character between single quotes. */
    private static Object[] arguments(String text) {
        String[] parts = text.isEmpty() ? new String[0] : text.split(", ");
        Object[] values = new Object[parts.length];
        for (int i = 0; i < parts.length; i++) {
            values[i] = parts[i].startsWith("'") ? parts[i].charAt(1) : Integer.parseInt(parts[i]);
        }
        return values;
    }

    private static String answer(SlotProbe probe, String name, Object[] values) throws Exception {
        Class<?>[] types = new Class<?>[values.length];
        for (int i = 0; i < values.length; i++) {
            types[i] = int.class;
        }
        Method method = SlotProbe.class.getMethod(name, types);
        try {
            return String.valueOf(method.invoke(probe, values));
        } catch (InvocationTargetException e) {
            return "throws " + e.getCause().getClass().getSimpleName();
        }
    }

    private static void checkNames(String text) {
        for (Method method : SlotProbe.class.getDeclaredMethods()) {
            boolean isPublic = Modifier.isPublic(method.getModifiers());
            if (isPublic && !text.contains("`" + method.getName() + "`")) {
                report("README.md does not name " + method.getName());
            }
        }
    }

    public static void main(String[] args) throws Exception {
        String text = Files.readString(Path.of("README.md"));
        SlotProbe probe = new SlotProbe();
        int calls = 0;
        for (String line : text.split("\n")) {
            Matcher call = CALL.matcher(line);
            if (!call.matches()) {
                if (line.startsWith("    probe.")) {
                    report("not read: " + line);
                }
                continue;
            }
            calls++;
            String got = answer(probe, call.group(1), arguments(call.group(2)));
            if (!got.equals(call.group(3))) {
                report(line.trim() + " .. answered " + got);
            }
        }
        if (calls < FEWEST_CALLS) {
            report("README.md has calls: " + calls);
        }
        checkNames(text);
        System.out.println(wrong == 0 ? "README.md is right" : wrong + " things in README.md are not right");
        if (wrong != 0) {
            System.exit(1);
        }
    }
}
