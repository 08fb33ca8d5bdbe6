import java.lang.management.ManagementFactory;
import java.lang.reflect.Constructor;
import java.lang.reflect.Field;
import java.lang.reflect.Method;
import java.lang.reflect.Modifier;
import java.nio.charset.StandardCharsets;
import java.nio.file.Files;
import java.nio.file.Path;
import java.util.Map;
import java.util.TreeMap;
import java.util.TreeSet;
import java.util.regex.Matcher;
import java.util.regex.Pattern;

/** What of LANGUAGE.md can be looked at by a program: words, the face, objects made by calls. Runs in the project's directory. */
public final class LanguageTests {
    private static final String SOURCE = "src/main/java/WhirlShafts.java";
    private static final String FACE = "disc(int,int,int)int cut()int clear()int set(int,int,int)int of(int,int)int "
        + "below(int,int)int isRate(int,int)int sign(int,int,int)int nodes(int,int)int rest(int,int,int)int top()int "
        + "fence(int,int)int held(int,int,int)int band(int,int,int)int gap(int,int)int trim(int,int,int,int,int)int "
        + "tune(int,int,int,int)int heavier(int,int,int)int change(int,int)int critical(int)int "
        + "fits(int,int,int,int,int)int judge(int,int)int order(int,int,int)int tried(int,int)int does()int drop()int "
        + "undo()int redo()int feed(int)int wipe()int read()int row(int,int,int)int put(int,int,long)int "
        + "get(int,int)long film(int,int,int)int copy(int,int,int,int,int)int act(int,int,int)int trace(int)int "
        + "taken(int,int)int image()int alike()int back()int count(int)int";
    private static int wrong = 0;

    private static void due(boolean kept, String rule) {
        if (!kept) {
            wrong++;
            System.out.println("not kept: " + rule);
        }
    }

    public static void main(String[] args) throws Exception {
        String code = withoutComments(Files.readString(Path.of(SOURCE), StandardCharsets.US_ASCII));
        words(code);
        face();
        inside(code);
        room();
        System.out.println(wrong == 0 ? "the language is kept" : wrong + " rules are not kept");
        if (wrong != 0) System.exit(1);
    }

    private static String withoutComments(String text) {
        return text.replaceAll("(?s)/\\*.*?\\*/", " ").replaceAll("//[^\n]*", " ");
    }

    private static void words(String code) {
        String[] none = {"throw", "throws", "try", "catch", "finally", "synchronized", "assert", "import", "package",
            "volatile", "native", "transient", "protected", "System\\.out", "System\\.exit", "Exact", "hashCode", "equals",
            "toString", "Object", "var"};
        for (String word : none) due(!Pattern.compile("\\b" + word + "\\b").matcher(code).find(), "no " + word);
        due(!code.contains("->"), "no lambda");
        due(!code.contains("@"), "no annotation: none is listed");
        due(!code.contains("::"), "no method reference");
        due(!Pattern.compile("\\w+Exact\\s*\\(").matcher(code).find(), "nothing that ends in Exact");
        Matcher library = Pattern.compile("\\b(System|Math|Integer|Long|Arrays)\\.(\\w+)").matcher(code);
        while (library.find()) {
            due("arraycopy max floorMod MIN_VALUE".contains(library.group(2)), "library: " + library.group());
        }
    }

    private static void face() {
        TreeSet<String> want = new TreeSet<>();
        for (String one : FACE.split(" ")) want.add(one);
        TreeSet<String> got = new TreeSet<>();
        TreeSet<String> names = new TreeSet<>();
        for (Method m : WhirlShafts.class.getDeclaredMethods()) {
            if (Modifier.isPrivate(m.getModifiers())) continue;
            StringBuilder s = new StringBuilder(m.getName()).append('(');
            for (Class<?> c : m.getParameterTypes()) s.append(s.charAt(s.length() - 1) == '(' ? "" : ",").append(c.getName());
            got.add(s.append(')').append(m.getReturnType().getName()).toString());
            names.add(m.getName());
            due(Modifier.isPublic(m.getModifiers()) && !Modifier.isStatic(m.getModifiers()), "public: " + m.getName());
        }
        due(want.equals(got), "the face is " + got);
        for (Method m : WhirlShafts.class.getDeclaredMethods()) {
            due(!Modifier.isPrivate(m.getModifiers()) || !names.contains(m.getName()), "a private name: " + m.getName());
        }
        Map<String, Long> constants = new TreeMap<>(Map.of("BAD", -1L, "NOT", -2L, "FULL", -3L, "STATE", -5L,
            "VOID", Long.MIN_VALUE));
        for (Field f : WhirlShafts.class.getDeclaredFields()) {
            if (Modifier.isPrivate(f.getModifiers())) continue;
            due(constants.remove(f.getName()) != null, "a field too many: " + f.getName());
        }
        due(constants.isEmpty(), "constants that are missing: " + constants);
        Constructor<?>[] made = WhirlShafts.class.getDeclaredConstructors();
        due(made.length == 1 && made[0].getParameterCount() == 0 && Modifier.isPublic(made[0].getModifiers()), "constructor");
        due(Modifier.isFinal(WhirlShafts.class.getModifiers()), "final");
    }

    private static void inside(String code) {
        Class<?>[] classes = WhirlShafts.class.getDeclaredClasses();
        due(classes.length <= 12, "at most some twelve classes");
        for (Class<?> c : classes) {
            due(Modifier.isStatic(c.getModifiers()), "static: " + c);
            int fields = 0;
            for (Field f : c.getDeclaredFields()) {
                if (!Modifier.isStatic(f.getModifiers())) fields++;
                else due(Modifier.isFinal(f.getModifiers()), "static fields are final: " + f);
            }
            due(fields <= 20, "some twenty fields: " + c);
            for (Method m : c.getDeclaredMethods()) due(m.getParameterCount() <= 7, "seven parameters: " + m);
        }
        int methodStart = 0;
        String[] lines = code.split("\n");
        for (int i = 0; i < lines.length; i++) {
            if (lines[i].matches("    (    )?\\w.*\\) \\{")) methodStart = i;
            if (lines[i].matches("    (    )?\\}")) due(i - methodStart <= 60 || !lines[methodStart].contains("("), "short: " + lines[methodStart]);
        }
    }

    /** No call makes an object: what a run needs was made by the constructor. */
    private static void room() {
        com.sun.management.ThreadMXBean bean = (com.sun.management.ThreadMXBean) ManagementFactory.getThreadMXBean();
        if (!bean.isThreadAllocatedMemorySupported()) return;
        callsOfOneRun(new WhirlShafts());
        WhirlShafts x = new WhirlShafts();
        long before = bean.getThreadAllocatedBytes(Thread.currentThread().getId());
        callsOfOneRun(x);
        long made = bean.getThreadAllocatedBytes(Thread.currentThread().getId()) - before;
        due(made < 4096, "calls make nothing: " + made + " bytes");
    }

    private static void callsOfOneRun(WhirlShafts x) {
        for (int i = 0; i < 8; i++) x.disc(i % 5, 20 + i, 30 + i);
        for (int i = 0; i < 20; i++) {
            x.set(0, i % 8, 40 + i);
            x.order(4, 0, i % 10);
            x.tried(3, 16);
            x.does();
            x.undo();
            x.redo();
            x.film(0, 2, 16);
            x.fits(0, 8, 16, 3, 0);
            x.fits(0, 8, 16, 3, 2);
            x.judge(0, 16);
            x.trim(2, 3, 100, 16, 0);
            x.tune(2, 100, 200, 16);
            x.heavier(3, 16, 0);
            x.change(3, 16);
            x.critical(3);
            x.gap(16, 1);
            x.feed('n');
            x.feed('5');
            x.read();
            x.act(i % 8, 2, i);
            x.trace(1);
            x.image();
            x.alike();
            x.back();
        }
    }
}
