import java.io.IOException;
import java.lang.reflect.InvocationTargetException;
import java.lang.reflect.Method;
import java.lang.reflect.Modifier;
import java.nio.file.Files;
import java.nio.file.Path;
import java.util.Set;
import java.util.TreeSet;
import java.util.regex.Matcher;
import java.util.regex.Pattern;

/** Makes the calls that README.md shows, as they stand there, and holds their answers against those it tells. */
public final class ReadmeTest {
    private static final Pattern NEW = Pattern.compile("(SheetDoctor )?doctor = new SheetDoctor\\(\\);");
    private static final Pattern CALL = Pattern.compile("doctor\\.(\\w+)\\((.*?)\\);\\s+// ([^ :]+): .+");

    public static void main(String[] args) throws IOException, IllegalAccessException {
        Set<String> shown = new TreeSet<>();
        SheetDoctor doctor = null;
        boolean inCode = false;
        int number = 0;
        for (String line : Files.readAllLines(Path.of("README.md"))) {
            number++;
            Matcher call = CALL.matcher(line);
            if (line.startsWith("```")) {
                inCode = line.equals("```java");
            } else if (inCode && NEW.matcher(line).matches()) {
                doctor = new SheetDoctor();
            } else if (inCode) {
                boolean understood = doctor != null && call.matches();
                Expect.yes("line " + number + " is a call with its answer", understood);
                if (understood) {
                    shown.add(call.group(1));
                    Expect.same("line " + number + ": " + call.group(1) + "(" + call.group(2) + ")",
                            answer(doctor, call.group(1), call.group(2)), call.group(3));
                }
            }
        }
        for (Method method : SheetDoctor.class.getDeclaredMethods()) {
            if (Modifier.isPublic(method.getModifiers())) {
                Expect.yes(method.getName() + " is shown", shown.contains(method.getName()));
            }
        }
        Expect.end();
    }

    private static String answer(SheetDoctor doctor, String name, String written) throws IllegalAccessException {
        String[] parts = written.isBlank() ? new String[0] : written.split(",\\s*");
        for (Method method : SheetDoctor.class.getMethods()) {
            if (method.getName().equals(name) && method.getParameterCount() == parts.length) {
                return answer(doctor, method, parts);
            }
        }
        return "no such call";
    }

    private static String answer(SheetDoctor doctor, Method method, String[] parts) throws IllegalAccessException {
        Object[] arguments = new Object[parts.length];
        for (int i = 0; i < parts.length; i++) {
            arguments[i] = argument(method.getParameterTypes()[i], parts[i]);
        }
        try {
            return String.valueOf(method.invoke(doctor, arguments));
        } catch (InvocationTargetException thrown) {
            return thrown.getCause().getClass().getSimpleName();
        }
    }

    private static Object argument(Class<?> type, String written) {
        if (type == boolean.class) {
            return Boolean.valueOf(written);
        }
        long number = Long.decode(written.replaceAll("L$", ""));
        return type == long.class ? (Object) number : (Object) Math.toIntExact(number);
    }
}
