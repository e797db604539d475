import java.io.IOException;
import java.lang.reflect.Constructor;
import java.lang.reflect.Field;
import java.lang.reflect.Method;
import java.lang.reflect.Modifier;
import java.nio.file.Files;
import java.nio.file.Path;
import java.util.ArrayList;
import java.util.List;
import java.util.Map;
import java.util.Set;
import java.util.TreeMap;
import java.util.TreeSet;
import java.util.regex.Matcher;
import java.util.regex.Pattern;

/** The public face, and those rules of LANGUAGE.md that reflection or the text can tell. */
public final class LanguageTest {
    private static final Path PROGRAM = Path.of("src/main/java/EntailedJoke.java");
    private static final String FACE = "int house(), int say(int), int hush(), int tale(int),"
        + " int hand(int,int,int,int,int), int undo(), int type(int), int clear(), int read(), int at(int,int),"
        + " int parent(int), int pointless(), int apart(int,int), int first(int), int older(int,int),"
        + " int fits(int,int), int covers(int), int heard(int,int), int forget(), int door(), int next(),"
        + " int fun(int), int funniest(int,int), int slip(int), int pawned(int,int), int odds(int,int,int,int),"
        + " int centuries(int,int,int), long part(int), int image(int), int from(int), int status(int),"
        + " int count(int), long digest()";
    private static final Set<String> LIBRARY = Set.of("Arrays.fill", "System.arraycopy", "Integer.bitCount",
        "Integer.compare", "Math.min", "Math.max");
    private static final Checks checks = new Checks();

    public static void main(String[] args) throws IOException {
        face();
        classesInside();
        String code = withoutComments(Files.readString(PROGRAM));
        words(code);
        library(code);
        lengths(code);
        depths(code);
        checks.end();
    }

    private static String signature(Method method) {
        List<String> types = new ArrayList<>();
        for (Class<?> type : method.getParameterTypes()) {
            types.add(type.getSimpleName());
        }
        return method.getReturnType().getSimpleName() + " " + method.getName() + "(" + String.join(",", types) + ")";
    }

    private static void face() {
        checks.about("rule 1");
        Class<EntailedJoke> face = EntailedJoke.class;
        checks.holds("public and final", face.getModifiers() == (Modifier.PUBLIC | Modifier.FINAL));
        Set<String> methods = new TreeSet<>();
        for (Method method : face.getDeclaredMethods()) {
            if (Modifier.isPublic(method.getModifiers())) {
                methods.add(signature(method));
                checks.holds(method + " of the object", !Modifier.isStatic(method.getModifiers()));
            } else {
                checks.holds(method + " private", Modifier.isPrivate(method.getModifiers()));
            }
        }
        checks.holds("the methods " + methods, methods.equals(new TreeSet<>(List.of(FACE.split(", ")))));
        Set<String> constants = new TreeSet<>();
        for (Field field : face.getDeclaredFields()) {
            if (Modifier.isPrivate(field.getModifiers())) {
                continue;
            }
            checks.holds(field + " public static final",
                field.getModifiers() == (Modifier.PUBLIC | Modifier.STATIC | Modifier.FINAL));
            constants.add(field.getType() + " " + field.getName());
        }
        checks.holds("the constants", constants.equals(Set.of("int NONE", "int BAD", "int NO", "int FULL")));
        Constructor<?>[] constructors = face.getDeclaredConstructors();
        checks.holds("one public constructor", constructors.length == 1
            && constructors[0].getParameterCount() == 0 && Modifier.isPublic(constructors[0].getModifiers()));
    }

    private static void classesInside() {
        Set<String> publicNames = new TreeSet<>();
        for (Method method : EntailedJoke.class.getMethods()) {
            publicNames.add(method.getName());
        }
        List<Class<?>> all = new ArrayList<>(List.of(EntailedJoke.class.getDeclaredClasses()));
        checks.about("rule 11");
        checks.holds("twelve classes at most", all.size() < 12);
        all.add(EntailedJoke.class);
        for (Class<?> inside : all) {
            checks.about("rules 1, 2, 5, 11: " + inside.getSimpleName());
            int modifiers = inside.getModifiers();
            boolean isFace = inside == EntailedJoke.class;
            checks.holds("static, not public",
                isFace || Modifier.isStatic(modifiers) && !Modifier.isPublic(modifiers) && !Modifier.isProtected(modifiers));
            int fields = 0;
            for (Field field : inside.getDeclaredFields()) {
                boolean isStatic = Modifier.isStatic(field.getModifiers());
                checks.holds(field + " final", !isStatic || Modifier.isFinal(field.getModifiers()));
                fields += isStatic ? 0 : 1;
            }
            checks.holds("twenty fields at most", fields <= 20);
            for (Method method : inside.getDeclaredMethods()) {
                checks.holds(method + " has no public one's name",
                    isFace && Modifier.isPublic(method.getModifiers()) || !publicNames.contains(method.getName()));
                checks.holds(method + " seven parameters at most", method.getParameterCount() <= 7);
            }
        }
    }

    private static String withoutComments(String text) {
        checks.about("rule 4");
        checks.holds("signs 1 to 127", text.chars().allMatch(c -> c > 0 && c < 128));
        return text.replaceAll("(?s)/\\*.*?\\*/", "").replaceAll("//[^\n]*", "");
    }

    private static void words(String code) {
        checks.about("rules 2 to 6");
        for (String word : List.of("throw", "throws", "try", "catch", "synchronized", "assert", "package", "protected",
            "volatile", "native", "Object", "equals", "hashCode", "toString", "enum", "var", "yield", "goto")) {
            checks.holds("no " + word, !Pattern.compile("\\b" + word + "\\b").matcher(code).find());
        }
        for (String sign : List.of("->", "::", "@", "\" +", "+ \"", "<>", "static {")) {
            checks.holds("no " + sign, !code.contains(sign));
        }
        checks.holds("one import", code.startsWith("import java.util.Arrays;") && code.split("import ").length == 2);
    }

    private static void library(String code) {
        checks.about("rule 4");
        Set<String> inside = new TreeSet<>();
        for (Class<?> one : EntailedJoke.class.getDeclaredClasses()) {
            inside.add(one.getSimpleName());
        }
        Matcher called = Pattern.compile("\\b([A-Z][A-Za-z]*[a-z])\\.(\\w+)").matcher(code);
        while (called.find()) {
            checks.holds(called.group(), inside.contains(called.group(1)) || LIBRARY.contains(called.group()));
        }
    }

    private static void lengths(String code) {
        checks.about("rule 11");
        String[] lines = code.split("\n");
        int from = 0;
        for (int line = 0; line < lines.length; line++) {
            boolean isInside = lines[line].startsWith("        ");
            if (lines[line].isBlank() || !isInside) {
                from = line;
            }
            checks.holds("line " + line + ": methods of sixty lines at most", line - from <= 60);
        }
    }

    /** By names: overloaded methods are told by how many parameters they take. */
    private static void depths(String code) {
        Map<String, Set<String>> calls = new TreeMap<>();
        Matcher header = Pattern.compile("(?m)^ +(?:public |private |static )*[\\w\\[\\]]+ (\\w+)\\(([^)]*)\\) \\{").matcher(code);
        List<String> names = new ArrayList<>();
        List<Integer> starts = new ArrayList<>();
        List<Integer> ends = new ArrayList<>();
        while (header.find()) {
            names.add(header.group(1) + "/" + parameters(header.group(2)));
            starts.add(header.end());
            ends.add(header.start());
        }
        checks.about("rule 11");
        checks.holds("every method has a name of its own", new TreeSet<>(names).size() == names.size());
        ends.add(code.length());
        for (int i = 0; i < names.size(); i++) {
            calls.put(names.get(i), called(code.substring(starts.get(i), ends.get(i + 1)), names));
        }
        for (String name : names) {
            checks.holds(name + ": eight deep at most, and no recursion", depth(name, calls, 0) <= 8);
        }
    }

    private static Set<String> called(String body, List<String> names) {
        Set<String> called = new TreeSet<>();
        Matcher call = Pattern.compile("(\\w+)\\(").matcher(body);
        while (call.find()) {
            int open = 1;
            int end = call.end();
            StringBuilder own = new StringBuilder();
            for (; open > 0 && end < body.length(); end++) {
                char c = body.charAt(end);
                open += c == '(' ? 1 : c == ')' ? -1 : 0;
                own.append(open == 1 && c != ')' ? c : ' ');
            }
            String name = call.group(1) + "/" + parameters(own.toString());
            if (names.contains(name)) {
                called.add(name);
            }
        }
        return called;
    }

    private static int parameters(String list) {
        return list.isBlank() ? 0 : list.split(",").length;
    }

    private static int depth(String name, Map<String, Set<String>> calls, int above) {
        int deepest = 0;
        if (above > 20) {
            return 1;
        }
        for (String called : calls.get(name)) {
            deepest = Math.max(deepest, depth(called, calls, above + 1));
        }
        return deepest + 1;
    }
}
