import java.io.IOException;
import java.lang.reflect.Method;
import java.lang.reflect.Modifier;
import java.nio.file.Files;
import java.nio.file.Path;
import java.util.Set;
import java.util.TreeSet;
import java.util.regex.Matcher;
import java.util.regex.Pattern;

/** README.md says what is so: its example is called line by line, its text read, its table held against the class. */
public final class ReadmeTest {
    private static int wrong = 0;

    private static void hold(boolean holds, String what) {
        if (!holds) {
            wrong++;
            System.out.println("not so: " + what);
        }
    }

    private static Method methodNamed(String name) {
        for (Method m : LastAwake.class.getDeclaredMethods()) {
            if (m.getName().equals(name) && Modifier.isPublic(m.getModifiers())) {
                return m;
            }
        }
        return null;
    }

    private static long ask(LastAwake x, String name, String numbers) throws ReflectiveOperationException {
        String[] parts = numbers.isEmpty() ? new String[0] : numbers.split(", *");
        Object[] values = new Object[parts.length];
        for (int i = 0; i < parts.length; i++) {
            values[i] = Integer.valueOf(parts[i]);
        }
        return ((Number) methodNamed(name).invoke(x, values)).longValue();
    }

    /** Each line of the example is one call; its comment begins with the answer. */
    private static void example(String page) throws ReflectiveOperationException {
        LastAwake x = new LastAwake();
        Matcher line = Pattern.compile("(?m)^x\\.(\\w+)\\(([-0-9, ]*)\\); +// (-?[0-9]+): ").matcher(page);
        int lines = 0;
        while (line.find()) {
            long got = ask(x, line.group(1), line.group(2));
            hold(got == Long.parseLong(line.group(3)), line.group().trim() + " but it answered " + got);
            lines++;
        }
        long calls = page.lines().filter(l -> l.startsWith("x.")).count();
        hold(calls > 0 && calls == lines, "each of the example's " + calls + " calls has its answer: " + lines + " have");
    }

    private static void textOfARoom(String page) {
        Matcher text = Pattern.compile("(?m)^    (room [a-z0-9 ;]*)$").matcher(page);
        if (!text.find()) {
            hold(false, "there is a text of a room");
            return;
        }
        LastAwake x = new LastAwake();
        String told = text.group(1);
        for (int i = 0; i < told.length(); i++) {
            x.type(told.charAt(i));
        }
        long items = told.chars().filter(c -> c == ';').count();
        hold(x.read() == items, "the text is read whole");
    }

    private static void table(String page) {
        Set<String> told = new TreeSet<>();
        Matcher row = Pattern.compile("(?m)^\\| (`.*?) \\|").matcher(page);
        while (row.find()) {
            Matcher call = Pattern.compile("`(\\w+)\\(([^)]*)\\)`").matcher(row.group(1));
            while (call.find()) {
                Method m = methodNamed(call.group(1));
                int numbers = call.group(2).isEmpty() ? 0 : call.group(2).split(",").length;
                hold(m != null && m.getParameterCount() == numbers, call.group() + " is a call of the class");
                told.add(call.group(1));
            }
        }
        for (Method m : LastAwake.class.getDeclaredMethods()) {
            hold(!Modifier.isPublic(m.getModifiers()) || told.contains(m.getName()), m.getName() + " is in the table");
        }
    }

    private static void tests(String page) throws IOException {
        try (var files = Files.list(Path.of("src/test/java"))) {
            for (Path file : (Iterable<Path>) files::iterator) {
                String name = file.getFileName().toString().replace(".java", "");
                hold(page.contains("\n- " + name + ": "), name + " is told");
            }
        }
    }

    public static void main(String[] args) throws IOException, ReflectiveOperationException {
        String page = Files.readString(Path.of("README.md"));
        example(page);
        textOfARoom(page);
        table(page);
        tests(page);
        System.out.println(wrong == 0 ? "the page says what is so" : wrong + " things on the page are not so");
        if (wrong != 0) {
            System.exit(1);
        }
    }
}
