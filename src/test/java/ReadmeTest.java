import java.lang.reflect.Method;
import java.lang.reflect.Modifier;
import java.nio.file.Files;
import java.nio.file.Path;
import java.util.Map;
import java.util.TreeMap;
import java.util.regex.Matcher;
import java.util.regex.Pattern;

/** README.md's example: each call is made, and its answer held against the number behind it; and it names every call. */
public final class ReadmeTest {
    private static final Pattern CALL = Pattern.compile("room\\.(\\w+)\\((.*)\\); *// (-?\\d+).*");

    private static int wrong = 0;

    private static void must(boolean holds, String what) {
        if (!holds) {
            wrong++;
            System.out.println("README.md: " + what);
        }
    }

    public static void main(String[] args) throws Exception {
        Map<String, Method> face = new TreeMap<>();
        for (Method method : BlindFiddles.class.getDeclaredMethods()) {
            if (Modifier.isPublic(method.getModifiers())) {
                face.put(method.getName(), method);
            }
        }
        String page = Files.readString(Path.of("README.md"));
        for (String name : face.keySet()) {
            must(page.contains("`" + name + "`"), "does not name " + name);
        }
        BlindFiddles room = new BlindFiddles();
        int calls = 0;
        for (String line : page.split("\n")) {
            Matcher call = CALL.matcher(line);
            must(call.matches() || !line.startsWith("room."), "a call without its answer: " + line);
            if (call.matches()) {
                calls++;
                long got = answer(room, face.get(call.group(1)), call.group(2));
                must(got == Long.parseLong(call.group(3)), call.group(1) + " answered " + got + ": " + line);
            }
        }
        must(calls > 0, "no call in it");
        System.out.println(wrong == 0 ? calls + " answers are as README.md says" : wrong + " things are not so");
        if (wrong != 0) {
            System.exit(1);
        }
    }

    private static long answer(BlindFiddles room, Method method, String values) throws Exception {
        Class<?>[] types = method.getParameterTypes();
        String[] told = values.isEmpty() ? new String[0] : values.split(", ");
        Object[] given = new Object[told.length];
        for (int i = 0; i < told.length; i++) {
            given[i] = types[i] == boolean.class ? (Object) Boolean.valueOf(told[i]) : (Object) Integer.decode(told[i]);
        }
        return ((Number) method.invoke(room, given)).longValue();
    }
}
