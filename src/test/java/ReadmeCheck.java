import java.io.IOException;
import java.lang.reflect.Method;
import java.lang.reflect.Modifier;
import java.nio.file.Files;
import java.nio.file.Path;
import java.util.Arrays;
import java.util.List;
import java.util.Set;
import java.util.TreeSet;
import java.util.regex.Matcher;
import java.util.regex.Pattern;

/**
 * Holds README.md against the class and against what .ci/run does. "example FILE" writes a test made
 * from the page's example; "tests SCRIPT NAME.." looks whether the page names this script as the way
 * to run the tests, and just those tests of the project that it has run.
 */
public final class ReadmeCheck {
    private static final Path PAGE = Path.of("README.md");
    private static final Path SHARED = Path.of("../shared/tests");
    private static final Path OWN = Path.of("src/test/java");
    private static final Pattern ANSWERED = Pattern.compile("(x\\.\\w+\\([^;]*\\)); +// (-?\\d+|true|false|NoSuchElementException)\\b.*");
    private static int wrong;

    private static void must(boolean holds, String what) {
        if (!holds) {
            wrong++;
            System.out.println("README.md: " + what);
        }
    }

    private static String page() throws IOException {
        boolean there = Files.isRegularFile(PAGE);
        must(there, "it is there");
        return there ? Files.readString(PAGE) : "";
    }

    private static String section(String page, String title) {
        int start = page.indexOf("\n## " + title + "\n");
        must(start >= 0, "it has a section: " + title);
        if (start < 0) {
            return "";
        }
        int end = page.indexOf("\n## ", start + 1);
        return page.substring(start, end < 0 ? page.length() : end);
    }

    private static Set<String> allOf(String pattern, String text) {
        Set<String> all = new TreeSet<>();
        Matcher m = Pattern.compile(pattern).matcher(text);
        while (m.find()) {
            all.add(m.group(1));
        }
        return all;
    }

    private static void writeExample(Path file) throws IOException {
        String use = section(page(), "How to use it");
        StringBuilder helpers = new StringBuilder();
        StringBuilder calls = new StringBuilder();
        int answers = 0;
        Matcher block = Pattern.compile("(?s)```java\n(.*?)```").matcher(use);
        while (block.find()) {
            if (block.group(1).startsWith("static ")) {
                helpers.append(block.group(1));
                continue;
            }
            for (String line : block.group(1).split("\n")) {
                Matcher answered = ANSWERED.matcher(line);
                boolean asks = answered.matches();
                must(asks || !line.startsWith("x."), "what is answered stands behind the call: " + line);
                answers += asks ? 1 : 0;
                calls.append(asks ? "due(\"" + answered.group(1) + "\", () -> " + answered.group(1) + ", \"" + answered.group(2) + "\");" : line).append('\n');
            }
        }
        must(answers > 0, "its example asks for something");
        Files.writeString(file, """
            import java.util.NoSuchElementException;
            public final class ReadmeExample {
                interface Call { Object answer(); }
                static int wrong;
                static void due(String what, Call call, String want) {
                    String got;
                    try {
                        got = "" + call.answer();
                    } catch (NoSuchElementException e) {
                        got = "NoSuchElementException";
                    }
                    if (!got.equals(want)) {
                        wrong++;
                        System.out.println("README.md: " + what + " answered " + got + ", the page says " + want);
                    }
                }
            """ + helpers + "public static void main(String[] args) {\n" + calls
            + "System.out.println(\"" + answers + " answers of the page's example, \" + wrong + \" not as it says\");\n"
            + "if (wrong != 0) {\nSystem.exit(1);\n}\n}\n}\n");
    }

    private static Set<String> testsIn(Path folder, String ending) throws IOException {
        Set<String> names = new TreeSet<>();
        try (var files = Files.list(folder)) {
            files.map(f -> f.getFileName().toString()).filter(n -> n.endsWith(ending)).forEach(n -> names.add(n.replace(".java", "")));
        }
        return names;
    }

    private static void testsAreNamed(String script, List<String> ran) throws IOException {
        String page = page();
        String way = section(page, "How to run its tests");
        Matcher first = Pattern.compile("(?m)^    (\\S.*)$").matcher(way);
        String named = first.find() ? first.group(1) : "";
        must(named.equals(script), "the way to run the tests is " + script + ", not " + named);
        must(Files.isExecutable(Path.of(script)), script + " can be run");
        must(way.contains("`../shared/tests`"), "it names the tests under ../shared/tests");
        Set<String> shared = testsIn(SHARED, ".java");
        Set<String> own = testsIn(OWN, "Tests.java");
        must(!shared.isEmpty() && ran.containsAll(shared), "all of " + shared + " were run");
        must(ran.containsAll(own), "all of " + own + " were run");
        must(ran.contains("ReadmeExample"), "its example was run");
        Set<String> told = allOf("`(\\w+Tests)`", way);
        must(told.equals(own), "the tests of the project are " + own + ", not " + told);
        commandsAreTheScripts(way, Files.readString(Path.of(script)));
    }

    /** A test that is run alone is compiled and run as the script does it, but for the folder. */
    private static void commandsAreTheScripts(String way, String script) {
        for (String start : new String[] {"javac -encoding UTF-8 --release 17 -d ", "java -cp "}) {
            must(script.contains(start) && way.contains("\n    " + start), "it and the script say: " + start);
        }
        must(script.contains("src/main/java/BluesAndGreens.java") && script.contains("src/test/java/*.java"), "the script compiles what it names");
    }

    private static void callsAreNamed() throws IOException {
        Set<String> told = allOf("`(\\w+)\\([^`]*\\)`", section(page(), "How to use it"));
        for (Method m : BluesAndGreens.class.getDeclaredMethods()) {
            must(!Modifier.isPublic(m.getModifiers()) || told.contains(m.getName()), "it names the call " + m.getName());
        }
    }

    public static void main(String[] args) throws IOException {
        if (args.length == 2 && args[0].equals("example")) {
            writeExample(Path.of(args[1]));
        } else if (args.length > 1 && args[0].equals("tests")) {
            testsAreNamed(args[1], Arrays.asList(args).subList(2, args.length));
            callsAreNamed();
        } else {
            must(false, "asked for neither its example nor its tests");
        }
        if (wrong != 0) {
            System.exit(1);
        }
        System.out.println(args[0].equals("example") ? "the example is written as a test" : "it names all calls, the script and the tests");
    }
}
