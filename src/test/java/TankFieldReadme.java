import java.io.IOException;
import java.lang.reflect.InvocationTargetException;
import java.lang.reflect.Method;
import java.nio.file.Files;
import java.nio.file.Path;
import java.util.HashMap;
import java.util.HashSet;
import java.util.Map;
import java.util.Set;
import java.util.TreeSet;
import java.util.regex.Matcher;
import java.util.regex.Pattern;
import java.util.stream.Collectors;
import java.util.stream.Stream;

/** README.md: its run answers what it says, it has every call, and it names the tests that there are. */
public final class TankFieldReadme {
    private static final Path README = Path.of("README.md");
    private static final Path TESTS = Path.of("src/test/java");
    private static final Pattern CALL =
            Pattern.compile("(?:(?:int|long) (\\w+) = )?field\\.(\\w+)\\(([^)]*)\\);\\s+// (-?\\d+|[A-Z]+)\\b.*");

    private static int checks;
    private static int wrong;

    public static void main(String[] args) throws IOException, ReflectiveOperationException {
        String text = Files.readString(README);
        Set<String> asked = run(blockOf(text, "java"));
        for (Method m : TankField.class.getDeclaredMethods()) {
            if (java.lang.reflect.Modifier.isPublic(m.getModifiers())) {
                check(m.getName() + "() is not in the run", asked.contains(m.getName()));
            }
        }
        names(text);
        check("how to run the tests is not told", blockOf(text, "sh").trim().equals(".ci/run"));
        check(".ci/run can't be run", Files.isExecutable(Path.of(".ci/run")));
        System.out.println(checks + " checks, " + wrong + " wrong");
        if (wrong != 0) {
            System.exit(1);
        }
    }

    private static void check(String what, boolean holds) {
        checks++;
        if (!holds) {
            wrong++;
            System.out.println("README.md: " + what);
        }
    }

    private static String blockOf(String text, String language) {
        Matcher m = Pattern.compile("(?s)```" + language + "\n(.*?)```").matcher(text);
        return m.find() ? m.group(1) : "";
    }

    /** Asks the run's calls, and tells which it had. */
    private static Set<String> run(String block) throws ReflectiveOperationException {
        Set<String> asked = new HashSet<>();
        Map<String, Integer> named = new HashMap<>();
        TankField field = new TankField();
        for (String line : block.split("\n")) {
            Matcher m = CALL.matcher(line);
            if (!m.matches()) {
                check("is no call with its answer: " + line, !line.contains("field."));
                continue;
            }
            long got = ask(field, m.group(2), m.group(3), named);
            check(line + " answers " + got, got == numberOf(m.group(4)));
            asked.add(m.group(2));
            if (m.group(1) != null) {
                named.put(m.group(1), (int) got);
            }
        }
        return asked;
    }

    private static long ask(TankField field, String name, String arguments, Map<String, Integer> named)
            throws ReflectiveOperationException {
        String[] words = arguments.isEmpty() ? new String[0] : arguments.split(", ");
        Class<?>[] types = new Class<?>[words.length];
        Object[] values = new Object[words.length];
        for (int i = 0; i < words.length; i++) {
            types[i] = int.class;
            values[i] = named.containsKey(words[i]) ? named.get(words[i]) : Integer.valueOf(words[i]);
        }
        try {
            return ((Number) TankField.class.getMethod(name, types).invoke(field, values)).longValue();
        } catch (InvocationTargetException e) {
            throw new IllegalStateException(name + "(" + arguments + ") threw", e.getCause());
        }
    }

    private static long numberOf(String word) throws ReflectiveOperationException {
        if (Character.isUpperCase(word.charAt(0))) {
            return ((Number) TankField.class.getField(word).get(null)).longValue();
        }
        return Long.parseLong(word);
    }

    /** Each test is told in a row of its own, and no row tells of one that is not there. */
    private static void names(String text) throws IOException {
        Set<String> told = new TreeSet<>();
        Matcher m = Pattern.compile("(?m)^- `(TankField\\w+)`:").matcher(text);
        while (m.find()) {
            told.add(m.group(1));
        }
        try (Stream<Path> files = Files.list(TESTS)) {
            Set<String> there = files.map(f -> f.getFileName().toString().replace(".java", ""))
                    .collect(Collectors.toCollection(TreeSet::new));
            check("tells of the tests " + told + ", there are " + there, told.equals(there));
        }
    }
}
