import java.io.IOException;
import java.lang.reflect.Method;
import java.nio.file.Files;
import java.nio.file.Path;
import java.util.ArrayList;
import java.util.List;
import java.util.regex.Matcher;
import java.util.regex.Pattern;
import java.util.stream.Stream;

/** README.md: its examples answer as they say, and its table has every test; run in the project's folder. */
public final class ReadmeTest {
    private static final Pattern BLOCK = Pattern.compile("```java\n(.*?)```", Pattern.DOTALL);
    private static final Pattern CALL = Pattern.compile("x\\.(\\w+)\\(([^)]*)\\);\\s*// (-?\\d+|true|false|NONE|NOTHING)(:.*)?");
    private static final Pattern PUT = Pattern.compile("put\\(x, \"([^\"]*)\"\\);");
    private static final Pattern REFUSAL = Pattern.compile("\\| (`[^|]*) \\| `(NONE|NOTHING|false)` \\| (none|`status\\(\\d\\)`) \\|");

    private static CelloBoats boats;
    private static int calls;

    public static void main(String[] args) throws Exception {
        String readme = Files.readString(Path.of("README.md"));
        examples(readme);
        refusals(readme);
        table(readme);
        Check.finish();
    }

    private static void examples(String readme) throws Exception {
        Matcher block = BLOCK.matcher(readme);
        while (block.find()) {
            if (block.group(1).startsWith("static")) {
                continue;
            }
            for (String line : block.group(1).split("\n")) {
                run(line);
            }
        }
        Check.due("calls in the examples", calls > 30, true);
    }

    private static void run(String line) throws Exception {
        Matcher call = CALL.matcher(line);
        Matcher put = PUT.matcher(line);
        if (line.equals("CelloBoats x = new CelloBoats();")) {
            boats = new CelloBoats();
        } else if (put.matches()) {
            boats.end(0);
            Check.put(boats, put.group(1));
        } else if (call.matches()) {
            calls++;
            Check.due("README: " + line, answer(call.group(1), call.group(2)), number(call.group(3)));
        } else {
            Check.due("README, no such line is known: " + line, false, true);
        }
    }

    private static long answer(String name, String numbers) throws Exception {
        List<Object> row = new ArrayList<>();
        for (String n : numbers.isEmpty() ? new String[0] : numbers.split(", ")) {
            row.add(Integer.decode(n));
        }
        Object told = methodNamed(name).invoke(boats, row.toArray());
        return told instanceof Boolean b ? b ? 1 : 0 : ((Number) told).longValue();
    }

    private static Method methodNamed(String name) {
        for (Method m : CelloBoats.class.getMethods()) {
            if (m.getName().equals(name)) {
                return m;
            }
        }
        throw new IllegalStateException("README names " + name);
    }

    private static long number(String word) {
        switch (word) {
            case "true": return 1;
            case "false": return 0;
            case "NONE": return CelloBoats.NONE;
            case "NOTHING": return CelloBoats.NOTHING;
            default: return Long.parseLong(word);
        }
    }

    /** Each call of the table, made on a new object so that it is refused. */
    private static void refusals(String readme) throws Exception {
        Matcher row = REFUSAL.matcher(readme);
        int named = 0;
        while (row.find()) {
            for (String name : row.group(1).replace("`", "").split(", ")) {
                named++;
                refusal(name, row.group(2), row.group(3));
            }
        }
        Check.due("calls in the table of refusals", named, 14);
    }

    private static void refusal(String name, String due, String counted) throws Exception {
        boats = new CelloBoats();
        if (name.equals("feed")) {
            for (int k = 0; k < 80; k++) {
                boats.feed(0, 0, 0, 0, 0);
            }
        }
        int parameters = methodNamed(name).getParameterCount();
        String numbers = "-1, ".repeat(parameters).replaceAll(", $", "");
        Check.due("README: refused " + name, answer(name, numbers), number(due));
        for (int kind = 0; kind < 6; kind++) {
            Check.due("README: refused " + name + ", status " + kind, boats.status(kind), counted.contains("" + kind) ? 1 : 0);
        }
    }

    private static void table(String readme) throws IOException {
        try (Stream<Path> all = Files.list(Path.of("src/test/java"))) {
            for (Path file : all.sorted().toList()) {
                String name = file.getFileName().toString().replace(".java", "");
                boolean inRow = name.matches("EdgesTerm[23]Test");
                if (name.endsWith("Test") && !inRow) {
                    Check.due("README has " + name, readme.contains("`" + name + "`"), true);
                }
            }
        }
    }
}
