import java.io.File;
import java.lang.reflect.Method;
import java.lang.reflect.Modifier;
import java.nio.file.Files;
import java.nio.file.Path;
import java.util.regex.Matcher;
import java.util.regex.Pattern;

/** README.md is what users see first: its example must answer what it says, and it must name every call and test. */
public final class ReadmeTest {
    private static final Pattern CALL = Pattern.compile("^x\\.(\\w+)\\(([-0-9, ]*)\\); *// (-?\\d+): .+$");

    public static void main(String[] args) throws Exception {
        String page = Files.readString(Path.of("README.md"));
        example(page);
        names(page);
        Due.end();
    }

    private static void example(String page) throws Exception {
        BottledViews x = null;
        int calls = 0;
        for (String line : page.split("\n")) {
            if (line.equals("BottledViews x = new BottledViews();")) {
                x = new BottledViews();
            } else if (line.startsWith("x.")) {
                Matcher m = CALL.matcher(line);
                Due.holds("a call with its answer, on an object: " + line, x != null && m.matches());
                Due.due(line, answer(x, m.group(1), m.group(2)), Long.parseLong(m.group(3)));
                calls++;
            }
        }
        Due.holds("there is an example", calls > 0);
    }

    private static int answer(BottledViews x, String name, String numbers) throws Exception {
        String[] told = numbers.isBlank() ? new String[0] : numbers.split(", *");
        for (Method m : BottledViews.class.getDeclaredMethods()) {
            if (m.getName().equals(name) && Modifier.isPublic(m.getModifiers())) {
                Object[] given = new Object[told.length];
                for (int i = 0; i < told.length; i++) {
                    long v = Long.parseLong(told[i]);
                    given[i] = m.getParameterTypes()[i] == long.class ? (Object) v : (Object) (int) v;
                }
                return (Integer) m.invoke(x, given);
            }
        }
        throw new IllegalArgumentException("no such call: " + name);
    }

    private static void names(String page) {
        for (Method m : BottledViews.class.getDeclaredMethods()) {
            if (Modifier.isPublic(m.getModifiers())) {
                Due.holds("README.md names " + m.getName(), page.contains("`" + m.getName() + "`"));
            }
        }
        File[] tests = new File("src/test/java").listFiles();
        Due.holds("there are tests", tests != null && tests.length > 0);
        for (File test : tests) {
            String name = test.getName().replace(".java", "");
            Due.holds("README.md names " + name, Pattern.compile("\\b" + name + "\\b").matcher(page).find());
        }
    }
}
