import java.io.IOException;
import java.lang.reflect.Method;
import java.nio.file.Files;
import java.nio.file.Path;
import java.util.List;
import java.util.regex.Matcher;
import java.util.regex.Pattern;
import java.util.stream.Stream;

/** README.md says how the class is used: each answer that it tells is held against the class's own. */
public final class ReadmeTest {
    private static final Path README = Path.of("README.md");
    private static final Pattern TOLD = Pattern.compile("tell\\(f, \"([^\"]*)\"\\);");
    private static final Pattern ASKED = Pattern.compile("f\\.(\\w+)\\(([^)]*)\\); +// ([^:]+)(?::.*)?");
    private static final int ANSWERS_LEAST = 20;

    public static void main(String[] args) throws IOException {
        Checks c = new Checks();
        String text = Files.readString(README);
        answers(c, text.lines().toList());
        names(c, text);
        c.finish();
    }

    private static void answers(Checks c, List<String> lines) {
        FarTown f = new FarTown();
        int asked = 0;
        for (String line : lines) {
            Matcher told = TOLD.matcher(line);
            Matcher call = ASKED.matcher(line);
            if (told.matches()) {
                f.end(0);
                Checks.tell(f, 0, told.group(1));
            } else if (call.matches()) {
                asked++;
                c.due("README: " + line, Edges.call(f, call.group(1), numbers(call.group(2))), number(call.group(3)));
            } else {
                c.due("a call of README that has no answer: " + line, line.startsWith("f."), false);
            }
        }
        c.due("answers in README", asked >= ANSWERS_LEAST, true);
    }

    private static int[] numbers(String list) {
        return Stream.of(list.split(", ")).mapToInt(ReadmeTest::number).toArray();
    }

    private static int number(String told) {
        switch (told.trim()) {
            case "true": return 1;
            case "false": return 0;
            case "FarTown.NONE": return FarTown.NONE;
            default: return Integer.parseInt(told.trim());
        }
    }

    private static void names(Checks c, String text) throws IOException {
        for (Method m : FarTown.class.getDeclaredMethods()) {
            boolean hidden = !java.lang.reflect.Modifier.isPublic(m.getModifiers());
            c.due("README names " + m.getName(), hidden || text.contains("`" + m.getName() + "`"), true);
        }
        try (Stream<Path> files = Files.list(Path.of("src/test/java"))) {
            for (Path file : files.toList()) {
                String name = file.getFileName().toString().replace(".java", "");
                c.due("README names " + name, !name.endsWith("Test") || text.contains("`" + name + "`"), true);
            }
        }
    }
}
