import java.lang.reflect.Method;
import java.lang.reflect.Modifier;
import java.nio.file.DirectoryStream;
import java.nio.file.Files;
import java.nio.file.Path;
import java.util.HashSet;
import java.util.Set;
import java.util.regex.Matcher;
import java.util.regex.Pattern;

/** What README.md shows of the use of the class answers as README.md says, and what it names is there. */
public final class ReadmeTest {
    private static final Pattern BLOCK = Pattern.compile("(?s)```java\n(.*?)```");
    private static final String MAKING = "WellControl well = new WellControl();";
    private static final Pattern CALL = Pattern.compile(
            "(?:(int|long) (\\w+) = )?well\\.(\\w+)\\(([^()]*)\\); +// (-?\\d+)(?:: .+)?");
    private static final Pattern CODE = Pattern.compile(".*// (-\\d): ([A-Z_]+)\\b.*");

    private final WellControl well = new WellControl();
    private final Set<String> names = new HashSet<>();
    private final Set<String> called;

    private ReadmeTest(Set<String> called) {
        this.called = called;
    }

    public static void main(String[] args) throws Exception {
        String text = Files.readString(Path.of("README.md"));
        examples(text);
        everyCallIsNamed(text);
        everyTestIsNamed(text);
        everyFileIsThere(text);
        Due.end();
    }

    private static void examples(String text) throws Exception {
        Set<String> called = new HashSet<>();
        Matcher block = BLOCK.matcher(text);
        while (block.find()) {
            new ReadmeTest(called).example(block.group(1).split("\n"));
        }
        for (Method method : WellControl.class.getDeclaredMethods()) {
            Due.holds("README.md shows " + method.getName(), called.contains(method.getName())
                    || !Modifier.isPublic(method.getModifiers()));
        }
    }

    private void example(String[] lines) throws Exception {
        Due.holds("an example begins with " + MAKING, lines[0].equals(MAKING));
        for (int i = 1; i < lines.length; i++) {
            Matcher call = CALL.matcher(lines[i]);
            boolean understood = call.matches();
            Due.holds("a call with its answer: " + lines[i], understood);
            if (understood) {
                answer(lines[i], call);
                errorName(lines[i]);
            }
        }
    }

    private void answer(String line, Matcher call) throws Exception {
        String[] texts = call.group(4).isEmpty() ? new String[0] : call.group(4).split(", ");
        Object[] arguments = new Object[texts.length];
        Class<?>[] types = new Class<?>[texts.length];
        for (int i = 0; i < texts.length; i++) {
            arguments[i] = number(texts[i]);
            types[i] = int.class;
        }
        Method method = WellControl.class.getMethod(call.group(3), types);
        called.add(method.getName());
        Due.due(line, ((Number) method.invoke(well, arguments)).longValue(),
                Long.parseLong(call.group(5)));
        if (call.group(1) != null) {
            Due.holds("its type: " + line, method.getReturnType().getName().equals(call.group(1)));
            Due.holds("a name of its own: " + line, names.add(call.group(2)));
        }
    }

    private static int number(String text) throws Exception {
        String constant = "WellControl.";
        return text.startsWith(constant)
                ? WellControl.class.getField(text.substring(constant.length())).getInt(null)
                : Integer.parseInt(text);
    }

    private static void errorName(String line) throws Exception {
        Matcher code = CODE.matcher(line);
        if (code.matches()) {
            Due.due(line, WellControl.class.getField(code.group(2)).getInt(null),
                    Integer.parseInt(code.group(1)));
        }
    }

    private static void everyCallIsNamed(String text) {
        for (Method method : WellControl.class.getDeclaredMethods()) {
            if (Modifier.isPublic(method.getModifiers())) {
                String parameters = method.getParameterCount() == 0 ? "\\(\\)"
                        : "\\(\\w+(, \\w+){" + (method.getParameterCount() - 1) + "}\\)";
                Due.holds("README.md names " + method.getName(),
                        Pattern.compile("`" + method.getName() + parameters + "`").matcher(text).find());
            }
        }
    }

    private static void everyTestIsNamed(String text) throws Exception {
        try (DirectoryStream<Path> files = Files.newDirectoryStream(Path.of("src/test/java"))) {
            for (Path file : files) {
                String name = file.getFileName().toString().replace(".java", "");
                Due.holds("README.md names " + name, text.contains("`" + name + "`"));
            }
        }
    }

    private static void everyFileIsThere(String text) {
        Matcher name = Pattern.compile("`(\\w+Test)`").matcher(text);
        while (name.find()) {
            Due.holds(name.group(1) + " is there",
                    Files.exists(Path.of("src/test/java", name.group(1) + ".java")));
        }
        Due.holds(".ci/run can be run", Files.isExecutable(Path.of(".ci/run")));
        for (String file : new String[] {"src/main/java/WellControl.java", "src/test/java"}) {
            Due.holds("README.md names " + file, text.contains("`" + file + "`"));
            Due.holds(file + " is there", Files.exists(Path.of(file)));
        }
    }
}
