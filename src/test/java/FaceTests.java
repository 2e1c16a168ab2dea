import java.io.IOException;
import java.lang.reflect.Constructor;
import java.lang.reflect.Field;
import java.lang.reflect.Method;
import java.lang.reflect.Modifier;
import java.nio.file.Files;
import java.nio.file.Path;
import java.util.ArrayList;
import java.util.Arrays;
import java.util.HashSet;
import java.util.List;
import java.util.Set;
import java.util.TreeSet;
import java.util.regex.Matcher;
import java.util.regex.Pattern;

/** The public face of the class, and the rules of LANGUAGE.md that a look at it can tell. Runs in the project's folder. */
public final class FaceTests {
    private static final Path SOURCE = Path.of("src/main/java/GravesExchanged.java");
    private static final Path DOCUMENT = Path.of("../shared/DOC.md");
    // Each call with how many numbers it takes.
    private static final String FACE = "write1 wipe0 fault0 lay0 dead2 plot2 visitor2 bury3 change3 forgive2 visit2 undo0"
        + " right1 moved0 mend1 grudge0 takes1 tour1 enough0 leave0 seen2 forget0 was1 owed1 balance0 names1 next3"
        + " year3 keep0 back0 count1";
    private static int wrong = 0;

    private FaceTests() {
    }

    public static void main(String[] args) throws IOException {
        face();
        constants();
        for (Class<?> c : allClasses()) {
            members(c);
        }
        String written = Files.readString(SOURCE);
        source(withoutComments(written));
        String document = Files.readString(DOCUMENT);
        asInTheDocument(document, written);
        headings(document, written);
        System.out.println(wrong + " wrong");
        if (wrong != 0) {
            System.exit(1);
        }
    }

    private static void due(boolean so, String what) {
        if (!so) {
            wrong++;
            System.out.println("not so: " + what);
        }
    }

    private static List<Class<?>> allClasses() {
        List<Class<?>> all = new ArrayList<>(List.of(GravesExchanged.class));
        all.addAll(Arrays.asList(GravesExchanged.class.getDeclaredClasses()));
        return all;
    }

    private static void face() {
        Set<String> found = new TreeSet<>();
        for (Method m : GravesExchanged.class.getDeclaredMethods()) {
            if (!Modifier.isPrivate(m.getModifiers())) {
                found.add(m.getName() + m.getParameterCount());
                boolean isPlain = Modifier.isPublic(m.getModifiers()) && !Modifier.isStatic(m.getModifiers());
                due(isPlain && m.getReturnType() == int.class, m.getName() + " is public and answers an int");
                due(Arrays.stream(m.getParameterTypes()).allMatch(t -> t == int.class), m.getName() + " takes ints");
            }
        }
        Set<String> want = new TreeSet<>(Arrays.asList(FACE.split(" ")));
        due(found.equals(want), "the calls are " + want + ", but they are " + found);
        Constructor<?>[] made = GravesExchanged.class.getDeclaredConstructors();
        due(made.length == 1 && made[0].getParameterCount() == 0 && Modifier.isPublic(made[0].getModifiers()),
            "one public constructor without numbers");
        due(Modifier.isFinal(GravesExchanged.class.getModifiers()), "the class is final");
    }

    // Each line of the document's face stands in the source, with the same names of numbers.
    private static void asInTheDocument(String document, String written) {
        Matcher line = Pattern.compile("(?m)^    (public [^;{]*);$").matcher(document);
        int lines = 0;
        while (line.find()) {
            lines++;
            String words = line.group(1);
            due(written.contains("\n    " + words + (words.endsWith(")") ? " {" : ";")), "in the source stands " + words);
        }
        due(lines == FACE.split(" ").length + 2, "the document's face has the constants, the constructor and the calls");
    }

    // "Ahead of the calls `keep`, `back`, `count` the interface says: ---- kept."
    private static void headings(String document, String written) {
        Matcher told = Pattern.compile("(?m)^Ahead of the calls (.*) the interface says: (---- .*)\\.$").matcher(document);
        int headings = 0;
        while (told.find()) {
            headings++;
            int from = written.indexOf("\n    // " + told.group(2) + "\n");
            int to = written.indexOf("\n    // ---- ", from + 1);
            String part = from < 0 ? "" : written.substring(from, to < 0 ? written.length() : to);
            Matcher call = Pattern.compile("(?m)^    public int (\\w+)\\(").matcher(part);
            List<String> found = new ArrayList<>();
            while (call.find()) {
                found.add(call.group(1));
            }
            List<String> want = Arrays.asList(told.group(1).replace("`", "").split(", "));
            due(found.equals(want), "behind " + told.group(2) + " come " + want + ", but there come " + found);
        }
        due(headings == 7, "the document tells seven headings");
    }

    private static void constants() {
        Set<String> found = new TreeSet<>();
        for (Field f : GravesExchanged.class.getDeclaredFields()) {
            if (!Modifier.isPrivate(f.getModifiers())) {
                found.add(f.getName());
            }
        }
        due(found.equals(Set.of("BAD", "NO", "FULL", "NONE")), "the constants are four, but they are " + found);
        due(GravesExchanged.BAD == -1 && GravesExchanged.NO == -2, "BAD is -1, NO is -2");
        due(GravesExchanged.FULL == -3 && GravesExchanged.NONE == -4, "FULL is -3, NONE is -4");
    }

    private static void members(Class<?> c) {
        Set<String> publicNames = new HashSet<>(Arrays.asList(FACE.replaceAll("\\d", "").split(" ")));
        boolean isOuter = c == GravesExchanged.class;
        due(isOuter || Modifier.isStatic(c.getModifiers()), c + " is static");
        for (Method m : c.getDeclaredMethods()) {
            due(m.getParameterCount() <= 7, m + " takes seven at most");
            due(isOuter && Modifier.isPublic(m.getModifiers()) || !publicNames.contains(m.getName()),
                m + " bears the name of a public one");
        }
        int fields = 0;
        for (Field f : c.getDeclaredFields()) {
            if (Modifier.isStatic(f.getModifiers())) {
                due(Modifier.isFinal(f.getModifiers()), f + " is final");
            } else {
                fields++;
            }
        }
        due(fields <= 20, c + " has twenty fields at most");
    }

    private static String withoutComments(String source) {
        return source.replaceAll("(?s)/\\*.*?\\*/", "").replaceAll("//[^\n]*", "");
    }

    private static void source(String code) {
        String[] forbidden = {"\\bthrow\\b", "\\btry\\b", "\\bcatch\\b", "\\bsynchronized\\b", "\\bassert\\b", "->", "::",
            "\\bimport\\b", "\\bpackage\\b", "\\w+Exact\\b", "\\bSystem\\.(?!arraycopy)", "\\bThread\\b", "\\bstatic \\{",
            "\\bhashCode\\b", "\\btoString\\b", "\\bvar\\b", "\\bRandom\\b"};
        for (String word : forbidden) {
            due(!Pattern.compile(word).matcher(code).find(), "the source is without " + word);
        }
        due(code.chars().allMatch(c -> c < 128), "the source is plain letters");
        Matcher loop = Pattern.compile("while \\((true|1)|for \\(;;").matcher(code);
        due(!loop.find(), "every loop has an end");
        methodsAreShort(code);
    }

    private static void methodsAreShort(String code) {
        Matcher m = Pattern.compile("(?m)^( {4}| {8})(?! |class|private static final class)[^\n]*\\) \\{$").matcher(code);
        while (m.find()) {
            int end = code.indexOf("\n" + m.group(1) + "}", m.start());
            long lines = code.substring(m.start(), Math.max(end, m.start())).lines().count();
            due(end > 0 && lines < 60, m.group().strip() + " has " + lines + " lines");
        }
    }
}
