import java.io.IOException;
import java.lang.reflect.Method;
import java.lang.reflect.Modifier;
import java.nio.file.DirectoryStream;
import java.nio.file.Files;
import java.nio.file.Path;
import java.util.ArrayList;
import java.util.List;
import java.util.Set;
import java.util.TreeSet;
import java.util.regex.Matcher;
import java.util.regex.Pattern;

/** What README.md says is so: it is read here, and each call that it shows is made. */
public final class ReadmeTest {
    private static final Pattern MADE = Pattern.compile("FloorQueue (\\w+) = new FloorQueue\\(([^)]*)\\);");
    private static final Pattern CALL = Pattern.compile("(\\w+)\\.(\\w+)\\(([^)]*)\\); +// ([^: ]+)(: .+)?");
    private static final Pattern TEST = Pattern.compile("\\| `(\\w+Test)` \\|.*");
    private static final Pattern CONSTANT = Pattern.compile("`FloorQueue\\.(\\w+)` is (-?\\d+)");

    private static final Set<String> shown = new TreeSet<>();

    public static void main(String[] args) throws IOException, ReflectiveOperationException {
        String text = Files.readString(Path.of("README.md"));
        List<String> examples = blocks(text, "java");
        Check.due("there are examples", !examples.isEmpty(), true);
        for (String example : examples) {
            follow(example);
        }
        everyCallIsShown();
        constants(text);
        commands(blocks(text, "sh"));
        testsNamed(text);
        Check.end("ReadmeTest");
    }

    private static List<String> blocks(String text, String language) {
        List<String> found = new ArrayList<>();
        Matcher block = Pattern.compile("```" + language + "\\n(.*?)```", Pattern.DOTALL).matcher(text);
        while (block.find()) {
            found.add(block.group(1));
        }
        return found;
    }

    private static void follow(String example) throws ReflectiveOperationException {
        FloorQueue object = null;
        String name = "";
        for (String line : example.split("\\n")) {
            Matcher made = MADE.matcher(line);
            Matcher call = CALL.matcher(line);
            if (made.matches()) {
                int[] sizes = numbers(made.group(2));
                object = new FloorQueue(sizes[0], sizes[1], sizes[2]);
                name = made.group(1);
            } else if (call.matches() && call.group(1).equals(name)) {
                Check.due(line, answer(object, call.group(2), numbers(call.group(3))), call.group(4));
            } else {
                Check.due("a line without its answer", line, "");
            }
        }
    }

    private static int[] numbers(String listed) {
        if (listed.isEmpty()) {
            return new int[0];
        }
        String[] parts = listed.split(", ");
        int[] values = new int[parts.length];
        for (int i = 0; i < parts.length; i++) {
            values[i] = Integer.parseInt(parts[i]);
        }
        return values;
    }

    /** As the examples write it: a refusal by its name. */
    private static String answer(FloorQueue object, String call, int[] values) throws ReflectiveOperationException {
        Class<?>[] types = new Class<?>[values.length];
        Object[] given = new Object[values.length];
        for (int i = 0; i < values.length; i++) {
            types[i] = int.class;
            given[i] = values[i];
        }
        shown.add(call);
        Object got = FloorQueue.class.getMethod(call, types).invoke(object, given);
        for (String constant : new String[] {"BAD", "LOW", "FULL"}) {
            if (got.equals(FloorQueue.class.getField(constant).getInt(null))) {
                return "FloorQueue." + constant;
            }
        }
        return got.toString();
    }

    private static void everyCallIsShown() {
        for (Method method : FloorQueue.class.getDeclaredMethods()) {
            if (Modifier.isPublic(method.getModifiers())) {
                Check.due("shown: " + method.getName(), shown.contains(method.getName()), true);
            }
        }
    }

    private static void constants(String text) throws ReflectiveOperationException {
        Matcher constant = CONSTANT.matcher(text);
        int told = 0;
        while (constant.find()) {
            told++;
            int is = FloorQueue.class.getField(constant.group(1)).getInt(null);
            Check.due(constant.group(), is, Integer.parseInt(constant.group(2)));
        }
        Check.due("constants told", told, 3);
    }

    private static void commands(List<String> named) {
        Check.due("commands", named.size(), 1);
        for (String command : named) {
            Check.due("can be run: " + command.strip(), Files.isExecutable(Path.of(command.strip())), true);
        }
    }

    private static void testsNamed(String text) throws IOException {
        Set<String> named = new TreeSet<>();
        Matcher test = TEST.matcher(text);
        while (test.find()) {
            named.add(test.group(1));
        }
        Set<String> there = new TreeSet<>();
        try (DirectoryStream<Path> files = Files.newDirectoryStream(Path.of("src/test/java"), "*Test.java")) {
            for (Path file : files) {
                there.add(file.getFileName().toString().replace(".java", ""));
            }
        }
        Check.due("tests named", named.toString(), there.toString());
    }
}
