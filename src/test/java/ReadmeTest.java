import java.io.IOException;
import java.lang.reflect.Method;
import java.lang.reflect.Modifier;
import java.nio.file.Files;
import java.nio.file.Path;
import java.util.ArrayList;
import java.util.List;
import java.util.regex.Matcher;
import java.util.regex.Pattern;
import java.util.stream.Stream;

/** README.md says what is so: its calls answer what stands behind them, its names and paths are there. */
public final class ReadmeTest {
    private static final Pattern CALL = Pattern.compile("x\\.(\\w+)\\(([^)]*)\\);\\s*// (-?\\d+): .*");
    private static final Pattern TELL = Pattern.compile("tell\\(x, (\".*\")\\);\\s*// (-?\\d+): .*");

    private static SecondLife x = new SecondLife();
    private static final List<String> CALLED = new ArrayList<>();

    public static void main(String[] args) throws IOException, ReflectiveOperationException {
        String page = Files.readString(Path.of("README.md"));
        Matcher blocks = Pattern.compile("(?s)```java\\n(.*?)```").matcher(page);
        while (blocks.find()) {
            // what is joined by + over two lines is one statement
            for (String line : blocks.group(1).replaceAll("\\n +\\+ ", " + ").split("\n")) {
                statement(line);
            }
        }
        bytesAreTold(page);
        everyCallIsShown();
        namesAndPaths(page);
        Due.end();
    }

    private static void statement(String line) throws ReflectiveOperationException {
        Matcher call = CALL.matcher(line);
        Matcher tell = TELL.matcher(line);
        if (line.equals("SecondLife x = new SecondLife();")) {
            x = new SecondLife();
        } else if (call.matches()) {
            CALLED.add(call.group(1));
            Due.is("README: " + line, made(call.group(1), call.group(2).split(", *")), Long.parseLong(call.group(3)));
        } else if (tell.matches()) {
            CALLED.add("town");
            String text = tell.group(1).replaceAll("\"( \\+ \")?", "");
            Due.is("README: " + line, Due.tell(x, text), Long.parseLong(tell.group(2)));
        } else if (!line.isBlank() && !line.startsWith("// ")) {
            Due.is("README: no answer behind " + line, 0, 1);
        }
    }

    private static long made(String name, String[] told) throws ReflectiveOperationException {
        int many = told[0].isEmpty() ? 0 : told.length;
        for (Method m : SecondLife.class.getMethods()) {
            if (m.getName().equals(name) && m.getParameterCount() == many) {
                Object[] numbers = new Object[many];
                for (int i = 0; i < many; i++) {
                    long v = Long.decode(told[i]);
                    numbers[i] = m.getParameterTypes()[i] == long.class ? (Object) v : (Object) (int) v;
                }
                return ((Number) m.invoke(x, numbers)).longValue();
            }
        }
        throw new NoSuchMethodException(name);
    }

    /** What is said of fed ints is what their bytes say. */
    private static void bytesAreTold(String page) {
        Matcher fed = Pattern.compile("x\\.feed\\(([^)]*)\\);.*\"(.*)\"").matcher(page);
        while (fed.find()) {
            StringBuilder text = new StringBuilder();
            for (String word : fed.group(1).split(", ")) {
                int w = Integer.decode(word);
                for (int shift = 24; shift >= 0; shift -= 8) {
                    text.append((char) (w >>> shift & 255));
                }
            }
            Due.is("README: " + fed.group(), text.toString().stripTrailing().equals(fed.group(2).stripTrailing()) ? 1 : 0, 1);
        }
    }

    private static void everyCallIsShown() {
        for (Method m : SecondLife.class.getDeclaredMethods()) {
            if (Modifier.isPublic(m.getModifiers())) {
                Due.is("README shows " + m.getName(), CALLED.contains(m.getName()) ? 1 : 0, 1);
            }
        }
    }

    /** Each test file is named, and each file that is named in src or shared is there. */
    private static void namesAndPaths(String page) throws IOException {
        try (Stream<Path> files = Files.list(Path.of("src/test/java"))) {
            for (Path file : files.sorted().toList()) {
                String name = file.getFileName().toString().replace(".java", "");
                Due.is("README names " + name, page.contains("`" + name + "`") || page.contains(name + ".java") ? 1 : 0, 1);
            }
        }
        Matcher names = Pattern.compile("`([A-Z]\\w+(Test|Edges))`|`((src|\\.ci)/[\\w./]+)`").matcher(page);
        while (names.find()) {
            Path due = names.group(1) != null ? Path.of("src/test/java/" + names.group(1) + ".java") : Path.of(names.group(3));
            Due.is("README names " + due, Files.exists(due) ? 1 : 0, 1);
        }
    }
}
