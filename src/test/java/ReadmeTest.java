import java.io.File;
import java.lang.reflect.Method;
import java.lang.reflect.Modifier;
import java.nio.file.Files;
import java.nio.file.Path;
import java.util.List;
import java.util.Set;
import java.util.TreeSet;
import java.util.regex.Matcher;
import java.util.regex.Pattern;

/** README.md: its calls answer what it says, and it leaves out no call and no test; run at the project's root. */
final class ReadmeTest {
    private static final String NEW = "OneDraught x = new OneDraught();";
    private static final Pattern CALL = Pattern.compile("x\\.(\\w+)\\(([^)]*)\\);\\s+// (-?\\w+)(:.*)?");
    private static final Set<String> CALLED = new TreeSet<>();

    public static void main(String[] args) throws Exception {
        List<String> lines = Files.readAllLines(Path.of("README.md"));
        calls(lines);
        everyCallIsShown();
        everyTestIsNamed(String.join("\n", lines));
        Due.end();
    }

    private static void calls(List<String> lines) throws Exception {
        OneDraught x = null;
        boolean within = false;
        for (String line : lines) {
            if (line.startsWith("```")) {
                within = line.equals("```java");
            } else if (within && line.equals(NEW)) {
                x = new OneDraught();
            } else if (within && !line.isEmpty()) {
                call(x, line);
            }
        }
    }

    private static void call(OneDraught x, String line) throws Exception {
        Matcher found = CALL.matcher(line);
        boolean fits = x != null && found.matches();
        Due.holds("a call on an object with its answer: " + line, fits);
        if (!fits) {
            return;
        }
        String[] told = found.group(2).isEmpty() ? new String[0] : found.group(2).split(", ");
        Object[] given = new Object[told.length];
        Class<?>[] types = new Class<?>[told.length];
        for (int i = 0; i < told.length; i++) {
            given[i] = number(told[i]);
            types[i] = int.class;
        }
        Object got = OneDraught.class.getMethod(found.group(1), types).invoke(x, given);
        CALLED.add(found.group(1));
        Due.due(line, (int) got, number(found.group(3)));
    }

    private static int number(String told) throws Exception {
        if (Character.isUpperCase(told.charAt(0))) {
            return OneDraught.class.getField(told).getInt(null);
        }
        return (int) (long) Long.decode(told);
    }

    private static void everyCallIsShown() {
        for (Method m : OneDraught.class.getDeclaredMethods()) {
            if (Modifier.isPublic(m.getModifiers())) {
                Due.holds("README.md shows " + m.getName(), CALLED.contains(m.getName()));
            }
        }
    }

    private static void everyTestIsNamed(String readme) {
        String[] files = new File("src/test/java").list();
        Due.holds("there are tests", files != null && files.length > 0);
        for (String file : files == null ? new String[0] : files) {
            if (file.endsWith("Test.java")) {
                String row = "\n| " + file.replace(".java", "") + " |";
                Due.holds("README.md has a row for " + file, readme.contains(row));
            }
        }
    }
}
