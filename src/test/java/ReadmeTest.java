import java.io.IOException;
import java.lang.reflect.Method;
import java.lang.reflect.Modifier;
import java.nio.file.Files;
import java.nio.file.Path;
import java.util.ArrayList;
import java.util.List;
import java.util.Set;
import java.util.TreeSet;
import java.util.regex.Matcher;
import java.util.regex.Pattern;

/** What README.md says of the calls must be what the document says, and its examples what the class answers. */
public final class ReadmeTest {
    private static final Path README = Path.of("README.md");
    private static final Path DOCUMENT = Path.of("../shared/DOC.md");
    private static final Pattern ROW = Pattern.compile("(?m)^\\| `((?:int |long )?\\w+\\([^)]*\\))` \\| (.*) \\|$");
    private static final Pattern PROMISE = Pattern.compile("(?m)^## Promise \\d+: .*\\R+`([^`]*)`: (.*)$");
    private static final Pattern EXAMPLE = Pattern.compile("(?s)```java\n(.*?)```");
    private static final Pattern TYPED = Pattern.compile("type\\(joke, \"([^\"]*)\"\\);");
    private static final Pattern CALL = Pattern.compile("joke\\.(\\w+)\\(([^)]*)\\); +// (-?\\d+)\\b.*");
    private static final Checks checks = new Checks();
    private static final Set<String> shown = new TreeSet<>();

    public static void main(String[] args) throws IOException, ReflectiveOperationException {
        String readme = Files.readString(README);
        calls(readme);
        kinds(readme);
        examples(readme);
        howToRun(readme);
        checks.end();
    }

    private static Set<String> found(Pattern pattern, String text) {
        Set<String> found = new TreeSet<>();
        Matcher matcher = pattern.matcher(text);
        while (matcher.find()) {
            found.add(matcher.group(1) + ": " + matcher.group(2));
        }
        return found;
    }

    private static void calls(String readme) throws IOException {
        checks.about("the calls in README.md");
        Set<String> told = found(ROW, readme);
        checks.holds("all 34 of them", told.size() == 34);
        if (!Files.exists(DOCUMENT)) {
            System.out.println("no " + DOCUMENT + ": what README.md says was not looked up there");
            return;
        }
        Set<String> promised = found(PROMISE, Files.readString(DOCUMENT));
        checks.holds("34 promises", promised.size() == 34);
        for (String one : promised) {
            checks.holds("in the document's words: " + one, told.contains(one));
        }
    }

    private static void kinds(String readme) throws IOException {
        checks.about("the KINDS in README.md");
        String document = Files.exists(DOCUMENT) ? Files.readString(DOCUMENT) : "";
        Matcher kind = Pattern.compile("(?m)^\\| ([0-9]) \\| (\\w+) \\| (.*) \\|$").matcher(readme);
        int kinds = 0;
        while (kind.find()) {
            checks.due("the number of " + kind.group(2), Integer.parseInt(kind.group(1)), kinds);
            String said = kind.group(1) + " " + kind.group(2) + "( \\(under \\w+\\))?: " + Pattern.quote(kind.group(3));
            checks.holds("as the document says: " + kind.group(2),
                document.isEmpty() || Pattern.compile(said).matcher(document).find());
            kinds++;
        }
        checks.due("how many", kinds, 6);
    }

    private static void examples(String readme) throws ReflectiveOperationException {
        Matcher example = EXAMPLE.matcher(readme);
        int examples = 0;
        while (example.find()) {
            examples++;
            checks.about("example " + examples + " in README.md");
            EntailedJoke joke = null;
            for (String line : example.group(1).split("\n")) {
                if (line.equals("EntailedJoke joke = new EntailedJoke();")) {
                    joke = new EntailedJoke();
                } else {
                    line(joke, line);
                }
            }
        }
        checks.due("examples", examples, 4);
        for (Method method : EntailedJoke.class.getDeclaredMethods()) {
            checks.holds("an example of " + method.getName(),
                !Modifier.isPublic(method.getModifiers()) || shown.contains(method.getName()));
        }
    }

    private static void line(EntailedJoke joke, String line) throws ReflectiveOperationException {
        Matcher typed = TYPED.matcher(line);
        if (typed.matches()) {
            shown.add("type");
            for (char c : typed.group(1).toCharArray()) {
                joke.type(c);
            }
            return;
        }
        Matcher call = CALL.matcher(line);
        checks.holds("a call with its answer: " + line, call.matches());
        if (call.matches()) {
            shown.add(call.group(1));
            checks.due(line, answer(joke, call.group(1), call.group(2)), Long.parseLong(call.group(3)));
        }
    }

    private static long answer(EntailedJoke joke, String name, String list) throws ReflectiveOperationException {
        List<Class<?>> types = new ArrayList<>();
        List<Object> numbers = new ArrayList<>();
        for (String number : list.isBlank() ? new String[0] : list.split(", *")) {
            types.add(int.class);
            numbers.add(number.equals("EntailedJoke.NONE") ? EntailedJoke.NONE : Integer.parseInt(number));
        }
        Method method = EntailedJoke.class.getMethod(name, types.toArray(new Class<?>[0]));
        return ((Number) method.invoke(joke, numbers.toArray())).longValue();
    }

    private static void howToRun(String readme) throws IOException {
        checks.about("how to run the tests in README.md");
        checks.holds(".ci/run", readme.contains("\n    .ci/run\n") && Files.isExecutable(Path.of(".ci/run")));
        try (var tests = Files.newDirectoryStream(Path.of("src/test/java"), "*Test.java")) {
            for (Path test : tests) {
                String name = test.getFileName().toString().replace(".java", "");
                checks.holds("a line for " + name, readme.contains("\n| " + name + " | "));
            }
        }
    }
}
