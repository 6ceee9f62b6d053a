import java.io.IOException;
import java.lang.reflect.Method;
import java.lang.reflect.Modifier;
import java.nio.file.Files;
import java.nio.file.Path;
import java.util.Set;
import java.util.TreeSet;
import java.util.regex.Matcher;
import java.util.regex.Pattern;

/** Each call that README.md shows answers what README.md says, and README.md shows every call. */
public final class ReadmeTest {
    private static final Check CHECK = new Check();

    public static void main(String[] args) throws Exception {
        Matcher line = Pattern.compile("(?m)^city\\.(\\w+)\\((.*?)\\); +// (-?\\d+)").matcher(readme());
        OneWall city = new OneWall();
        Set<String> shown = new TreeSet<>();
        while (line.find()) {
            String call = line.group(1) + "(" + line.group(2) + ")";
            long got = answer(city, line.group(1), line.group(2).isEmpty() ? new String[0] : line.group(2).split(", "));
            CHECK.due(call, got, Long.parseLong(line.group(3)));
            shown.add(line.group(1));
        }
        CHECK.so("calls are shown", !shown.isEmpty());
        for (Method m : OneWall.class.getDeclaredMethods()) {
            if (Modifier.isPublic(m.getModifiers())) {
                CHECK.so(m.getName() + " is shown", shown.contains(m.getName()));
            }
        }
        CHECK.end();
    }

    /** .ci/run starts each test in the project's directory. */
    private static String readme() throws IOException {
        return Files.readString(Path.of("README.md"));
    }

    private static long answer(OneWall city, String name, String[] told) throws Exception {
        for (Method m : OneWall.class.getDeclaredMethods()) {
            if (m.getName().equals(name) && Modifier.isPublic(m.getModifiers()) && m.getParameterCount() == told.length) {
                Object[] args = new Object[told.length];
                for (int i = 0; i < told.length; i++) {
                    args[i] = number(told[i], m.getParameterTypes()[i]);
                }
                return ((Number) m.invoke(city, args)).longValue();
            }
        }
        CHECK.so("there is a call " + name + " of " + told.length, false);
        return 0;
    }

    private static Object number(String told, Class<?> type) {
        long v = told.startsWith("'") ? told.charAt(1) : Long.parseLong(told);
        return type == long.class ? (Object) v : (Object) (int) v;
    }
}
