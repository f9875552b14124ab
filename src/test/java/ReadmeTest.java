import java.lang.reflect.InvocationTargetException;
import java.lang.reflect.Method;
import java.lang.reflect.Modifier;
import java.nio.file.Files;
import java.nio.file.Path;
import java.util.ArrayList;
import java.util.HashMap;
import java.util.List;
import java.util.Map;
import java.util.regex.Matcher;
import java.util.regex.Pattern;

/** README.md: its calls answer what stands behind them, and its table names each call of the face once. */
public final class ReadmeTest {
    private static final Pattern MADE = Pattern.compile("TeaNight (\\w+) = new TeaNight\\(\\);");
    private static final Pattern FED = Pattern.compile("feed\\((\\w+), \"([^\"]*)\"\\);");
    private static final Pattern CALLED = Pattern.compile("(\\w+)\\.(\\w+)\\(([^()]*)\\);\\s*// -> (\\S+).*");
    private static final Pattern BLOCK = Pattern.compile("(?s)```java\\n(.*?)```");

    private final Map<String, TeaNight> nights = new HashMap<>();
    private int calls;

    public static void main(String[] args) throws Exception {
        String page = Files.readString(Path.of("README.md"));
        Matcher block = BLOCK.matcher(page);
        ReadmeTest test = new ReadmeTest();
        Due.yes("README.md shows how a text is fed", block.find());
        String own = Files.readString(Path.of("src/test/java/ReadmeTest.java"));
        Due.yes("feed of README.md is the one below", squeezed(own).contains(squeezed(block.group(1))));
        while (block.find()) {
            for (String line : block.group(1).split("\n")) {
                test.follow(line);
            }
        }
        Due.yes("README.md shows calls", test.calls >= 20);
        table(page);
        Due.finish();
    }

    private static String squeezed(String code) {
        return code.replaceAll("\\s+", " ").strip();
    }

    // README.md shows this one to the letter
    static void feed(TeaNight night, String text) {
        for (int begin = 0; begin < text.length(); begin += 20) {
            int[] five = new int[5];
            for (int i = 0; i < 20; i++) {
                int sign = begin + i < text.length() ? text.charAt(begin + i) : 0;
                five[i / 4] = five[i / 4] << 8 | sign;
            }
            night.feed(five[0], five[1], five[2], five[3], five[4]);
        }
        night.end(text.length());
    }

    private void follow(String line) throws Exception {
        Matcher made = MADE.matcher(line);
        Matcher fed = FED.matcher(line);
        Matcher called = CALLED.matcher(line);
        if (made.matches()) {
            nights.put(made.group(1), new TeaNight());
        } else if (fed.matches()) {
            feed(nights.get(fed.group(1)), fed.group(2));
        } else {
            boolean reads = called.matches();
            Due.yes("README.md shows a call that can be read: " + line, reads);
            if (reads) {
                String got = answer(nights.get(called.group(1)), called.group(2), called.group(3));
                Due.yes(line + " and answered " + got, got.equals(called.group(4)));
                calls++;
            }
        }
    }

    private static Method named(String name) {
        for (Method m : TeaNight.class.getDeclaredMethods()) {
            if (m.getName().equals(name) && Modifier.isPublic(m.getModifiers())) {
                return m;
            }
        }
        throw new IllegalArgumentException("no call " + name);
    }

    private static String answer(TeaNight night, String name, String told) throws Exception {
        Method call = named(name);
        List<Object> given = new ArrayList<>();
        for (String one : told.isEmpty() ? new String[0] : told.split(", ")) {
            boolean truth = call.getParameterTypes()[given.size()] == boolean.class;
            given.add(truth ? (Object) Boolean.valueOf(one) : (Object) Integer.valueOf(one));
        }
        try {
            Object got = call.invoke(night, given.toArray());
            return got instanceof Boolean ? Boolean.TRUE.equals(got) ? "1" : "0" : String.valueOf(got);
        } catch (InvocationTargetException e) {
            return e.getCause().getClass().getSimpleName();
        }
    }

    private static void table(String page) {
        Map<String, Integer> times = new HashMap<>();
        for (String line : page.split("\n")) {
            if (line.startsWith("| ")) {
                Matcher name = Pattern.compile("`(\\w+)`").matcher(line);
                while (name.find()) {
                    times.merge(name.group(1), 1, Integer::sum);
                }
            }
        }
        int face = 0;
        for (Method m : TeaNight.class.getDeclaredMethods()) {
            if (Modifier.isPublic(m.getModifiers())) {
                face++;
                Due.same("rows of README.md that name " + m.getName(), times.getOrDefault(m.getName(), 0), 1);
            }
        }
        Due.same("names in the table of README.md", times.size(), face);
    }
}
