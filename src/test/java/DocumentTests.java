import java.lang.reflect.Field;
import java.lang.reflect.Method;
import java.lang.reflect.Modifier;
import java.nio.charset.StandardCharsets;
import java.nio.file.Files;
import java.nio.file.Path;
import java.util.ArrayList;
import java.util.List;
import java.util.TreeSet;
import java.util.regex.Matcher;
import java.util.regex.Pattern;
import java.util.stream.Stream;

/** The face is the document's; README.md names all of it, and its example answers so. Runs in the project's directory. */
public final class DocumentTests {
    private static final Path DOCUMENT = Path.of("../shared/DOC.md"), README = Path.of("README.md");
    private static final Path TESTS = Path.of("src/test/java");
    private static int wrong = 0;

    public static void main(String[] args) throws Exception {
        String face = part(text(DOCUMENT), "## The public face", "## Terms");
        String readme = text(README);
        faceIsTheDocuments(face);
        readmeNamesEachCall(face, readme);
        readmeNamesEachConstant(face, readme);
        readmeNamesEachTest(readme);
        exampleAnswers(part(readme, "```java", "```"));
        System.out.println(wrong == 0 ? "the face and README.md are as the document" : wrong + " things are not as the document");
        if (wrong != 0) System.exit(1);
    }

    private static void due(boolean holds, String told) {
        if (!holds) {
            wrong++;
            System.out.println(told);
        }
    }

    private static String text(Path path) throws Exception {
        return Files.readString(path, StandardCharsets.UTF_8);
    }

    private static String part(String text, String from, String to) {
        int start = text.indexOf(from);
        int end = start < 0 ? -1 : text.indexOf(to, start + from.length());
        due(end >= 0, "no part from \"" + from + "\" to \"" + to + "\"");
        return end < 0 ? "" : text.substring(start + from.length(), end);
    }

    private static List<String> found(String pattern, String text) {
        List<String> all = new ArrayList<>();
        Matcher matcher = Pattern.compile(pattern).matcher(text);
        while (matcher.find()) all.add(matcher.group(1));
        return all;
    }

    private static void faceIsTheDocuments(String face) throws Exception {
        TreeSet<String> want = new TreeSet<>();
        for (String one : found("public ((?:int|long) \\w+\\([^)]*\\));", face)) want.add(one.replaceAll("(int|long) \\w+(?=[,)])", "$1"));
        TreeSet<String> got = new TreeSet<>();
        for (Method m : WhirlShafts.class.getDeclaredMethods()) {
            if (!Modifier.isPublic(m.getModifiers())) continue;
            StringBuilder types = new StringBuilder();
            for (Class<?> type : m.getParameterTypes()) types.append(types.length() == 0 ? "" : ", ").append(type.getName());
            got.add(m.getReturnType().getName() + " " + m.getName() + "(" + types + ")");
        }
        due(want.size() == 43 && want.equals(got), "the face is " + got + ", the document's " + want);
        for (String constant : found("(\\w+ = [-\\w.]+)[,;]", face)) {
            String[] sides = constant.split(" = ");
            Field field = WhirlShafts.class.getField(sides[0]);
            due(((Number) field.get(null)).longValue() == number(sides[1]), "constant " + constant);
        }
    }

    private static void readmeNamesEachCall(String face, String readme) {
        for (String call : found("public (?:int|long) (\\w+\\([^)]*\\));", face)) {
            String row = "| `" + call.replaceAll("\\b(int|long) ", "") + "` |";
            due(readme.contains(row), "README.md has no " + row);
        }
    }

    private static void readmeNamesEachConstant(String face, String readme) {
        List<String> constants = found("(\\w+ = [-\\w.]+)[,;]", face);
        due(constants.size() == 5, "constants of the document: " + constants);
        for (String constant : constants) {
            String[] sides = constant.split(" = ");
            String row = "| " + (sides[0].equals("VOID") ? "the least long" : sides[1]) + " | `" + sides[0] + "` |";
            due(readme.contains(row), "README.md has no " + row);
        }
    }

    private static void readmeNamesEachTest(String readme) throws Exception {
        try (Stream<Path> files = Files.list(TESTS)) {
            for (Path file : (Iterable<Path>) files::iterator) {
                String name = file.getFileName().toString();
                boolean named = readme.contains(name) || readme.contains("`" + name.replace(".java", "") + "`");
                due(named, "README.md does not name " + name);
            }
        }
    }

    /** Each row of the example is done on one object, and answers the number that stands first behind it. */
    private static void exampleAnswers(String example) throws Exception {
        WhirlShafts bench = new WhirlShafts();
        Pattern row = Pattern.compile("bench\\.(\\w+)\\((.*)\\); +// (-?\\d+)(:.*)?");
        int calls = 0;
        for (String line : example.split("\n")) {
            if (line.isBlank() || line.equals("WhirlShafts bench = new WhirlShafts();")) continue;
            Matcher matcher = row.matcher(line);
            if (!matcher.matches()) {
                due(false, "no call with its answer: " + line);
                continue;
            }
            calls++;
            long got = answer(bench, matcher.group(1), matcher.group(2));
            due(got == Long.parseLong(matcher.group(3)), "README.md: " + line + " answered " + got);
        }
        due(calls > 0, "README.md has no example");
    }

    private static long answer(WhirlShafts bench, String name, String list) throws Exception {
        String[] words = list.isEmpty() ? new String[0] : list.split(", ");
        Class<?>[] types = new Class<?>[words.length];
        Object[] numbers = new Object[words.length];
        for (int i = 0; i < words.length; i++) {
            types[i] = int.class;
            numbers[i] = (int) number(words[i]);
        }
        return ((Number) WhirlShafts.class.getMethod(name, types).invoke(bench, numbers)).longValue();
    }

    private static long number(String word) {
        if (word.equals("Long.MIN_VALUE")) return Long.MIN_VALUE;
        return word.startsWith("'") ? word.charAt(1) : Long.parseLong(word);
    }
}
