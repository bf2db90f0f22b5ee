import java.lang.reflect.Method;
import java.lang.reflect.Modifier;
import java.nio.file.Files;
import java.nio.file.Path;
import java.util.List;
import java.util.regex.Matcher;
import java.util.regex.Pattern;
import java.util.stream.Stream;

/** README.md: the calls of its example answer what stands behind them, and it names each call and each test. */
public final class ReadmeTest {
    private static final Pattern BLOCK = Pattern.compile("(?s)```java\n(.*?)```");
    private static final Pattern TYPED = Pattern.compile("for \\(char c : \"(.*)\"\\.toCharArray\\(\\)\\) x\\.type\\((\\d), c\\);.*");
    private static final Pattern CALL = Pattern.compile("x\\.(\\w+)\\(([-\\d, ]*)\\);\\s*// (-?\\d+): .*");
    private static int wrong = 0, asked = 0;

    public static void main(String[] args) throws Exception {
        String page = Files.readString(Path.of("README.md"));
        Matcher block = BLOCK.matcher(page);
        look(block.find(), "there is an example");
        for (String line : block.group(1).split("\n")) follow(line.strip());
        look(asked >= 20, "the example asks, not only " + asked + " times");
        for (Method m : WrackDeeds.class.getDeclaredMethods()) {
            if (Modifier.isPublic(m.getModifiers())) look(page.contains("`" + m.getName() + "`"), "the page names " + m.getName());
        }
        for (String test : tests()) look(page.contains("`" + test + "`"), "the page names " + test);
        System.out.println(asked + " calls of README.md made, " + wrong + " not as it says");
        if (wrong != 0) System.exit(1);
    }

    private static WrackDeeds x;

    private static void follow(String line) throws Exception {
        Matcher typed = TYPED.matcher(line), call = CALL.matcher(line);
        if (line.equals("WrackDeeds x = new WrackDeeds();")) {
            x = new WrackDeeds();
        } else if (typed.matches()) {
            for (char c : typed.group(1).toCharArray()) x.type(Integer.parseInt(typed.group(2)), c);
        } else if (call.matches()) {
            asked++;
            long got = answer(call.group(1), call.group(2));
            look(got == Long.parseLong(call.group(3)), line + " answered " + got);
        } else {
            look(line.isEmpty(), "this line can be followed: " + line);
        }
    }

    private static long answer(String name, String arguments) throws Exception {
        Object[] row = Stream.of(arguments.split(",")).map(String::strip).filter(s -> !s.isEmpty()).map(Integer::valueOf).toArray();
        Class<?>[] types = new Class<?>[row.length];
        java.util.Arrays.fill(types, int.class);
        return ((Number) WrackDeeds.class.getMethod(name, types).invoke(x, row)).longValue();
    }

    private static List<String> tests() throws Exception {
        try (Stream<Path> files = Files.list(Path.of("src/test/java"))) {
            return files.map(f -> f.getFileName().toString()).filter(f -> f.endsWith(".java")).map(f -> f.replace(".java", "")).toList();
        }
    }

    private static void look(boolean well, String what) {
        if (!well) {
            wrong++;
            System.out.println("not so: " + what);
        }
    }
}
