import java.io.ByteArrayOutputStream;
import java.io.IOException;
import java.io.PrintStream;
import java.lang.reflect.Method;
import java.lang.reflect.Modifier;
import java.net.URL;
import java.net.URLClassLoader;
import java.nio.file.Files;
import java.nio.file.Path;
import java.util.ArrayList;
import java.util.Comparator;
import java.util.List;
import java.util.TreeSet;
import java.util.regex.Matcher;
import java.util.regex.Pattern;
import java.util.stream.Stream;
import javax.tools.JavaCompiler;
import javax.tools.ToolProvider;

/** README.md is there, and says truly how to use the class and how to run its tests. */
public final class ReadmeTest {
    private static final Check CHECK = new Check("ReadmeTest");
    private static final Path PAGE = Path.of("README.md");

    public static void main(String[] args) throws Exception {
        boolean there = Files.isRegularFile(PAGE);
        CHECK.due("README.md is there", there, true);
        if (there) {
            String page = Files.readString(PAGE);
            use(section(page, "Use"));
            tests(section(page, "Tests"));
        }
        CHECK.finish();
    }

    /** What stands under a heading; empty if there is none such. */
    private static String section(String page, String title) {
        Matcher matcher = Pattern.compile("(?ms)^## " + title + "$(.*?)(?=^## |\\z)").matcher(page);
        boolean found = matcher.find();
        CHECK.due("a section " + title, found, true);
        return found ? matcher.group(1) : "";
    }

    private static void names(String section, String words) {
        CHECK.due("the page says " + words, section.contains(words), true);
    }

    /** The lines of the section's first block of a language; empty if there is none. */
    private static String block(String section, String language) {
        Matcher matcher = Pattern.compile("(?ms)^```" + language + "$(.*?)^```$").matcher(section);
        boolean found = matcher.find();
        CHECK.due("a block of " + language, found, true);
        return found ? matcher.group(1) : "";
    }

    private static void use(String section) throws Exception {
        names(section, "`src/main/java/HangWatch.java`");
        names(section, "`NONE`");
        names(block(section, "sh"), "javac -d out src/main/java/HangWatch.java Example.java\njava -cp out Example\n");
        calls(section);
        String example = block(section, "java");
        if (!example.isEmpty()) {
            example(example);
        }
    }

    /** Each call of the face has its row, with as many parameters as it takes, and no row is of another call. */
    private static void calls(String section) {
        TreeSet<String> want = new TreeSet<>();
        for (Method method : HangWatch.class.getDeclaredMethods()) {
            if (Modifier.isPublic(method.getModifiers())) {
                want.add(method.getName() + " of " + method.getParameterCount());
            }
        }
        TreeSet<String> got = new TreeSet<>();
        Matcher rows = Pattern.compile("(?m)^\\| `(\\w+)\\(([^)]*)\\)` \\| \\S.* \\|$").matcher(section);
        while (rows.find()) {
            int parameters = rows.group(2).isEmpty() ? 0 : rows.group(2).split(", ").length;
            CHECK.due("a row of its own: " + rows.group(), got.add(rows.group(1) + " of " + parameters), true);
        }
        CHECK.due("the calls " + got, got.equals(want), true);
    }

    private static void example(String source) throws Exception {
        List<String> due = new ArrayList<>();
        for (String line : source.split("\n")) {
            if (line.contains("System.out.println(")) {
                Matcher told = Pattern.compile("// (true|false|-?\\d+): ").matcher(line);
                due.add(told.find() ? told.group(1) : "nothing told: " + line.strip());
            }
        }
        CHECK.due("answers in the example", due.isEmpty(), false);
        Path folder = Files.createTempDirectory("readme");
        try {
            List<String> got = compile(source, folder) ? printed(folder) : List.of();
            CHECK.due("lines printed", got.size(), due.size());
            for (int i = 0; i < Math.min(got.size(), due.size()); i++) {
                CHECK.due("line " + i + " of the example, " + got.get(i) + ", is " + due.get(i), got.get(i).equals(due.get(i)), true);
            }
        } finally {
            remove(folder);
        }
    }

    private static boolean compile(String source, Path folder) throws IOException {
        Path file = Files.writeString(folder.resolve("Example.java"), source);
        JavaCompiler compiler = ToolProvider.getSystemJavaCompiler();
        int code = compiler.run(null, null, null, "-d", folder.toString(), "src/main/java/HangWatch.java", file.toString());
        CHECK.due("javac of the example", code, 0);
        return code == 0;
    }

    private static List<String> printed(Path folder) throws Exception {
        PrintStream screen = System.out;
        ByteArrayOutputStream bytes = new ByteArrayOutputStream();
        URL[] where = {folder.toUri().toURL()};
        try (URLClassLoader loader = new URLClassLoader(where, ClassLoader.getPlatformClassLoader())) {
            System.setOut(new PrintStream(bytes, true));
            loader.loadClass("Example").getMethod("main", String[].class).invoke(null, (Object) new String[0]);
        } finally {
            System.setOut(screen);
        }
        return bytes.toString().lines().toList();
    }

    private static void remove(Path folder) throws IOException {
        try (Stream<Path> paths = Files.walk(folder)) {
            for (Path path : paths.sorted(Comparator.reverseOrder()).toList()) {
                Files.delete(path);
            }
        }
    }

    private static void tests(String section) throws IOException {
        CHECK.due("the first command is .ci/run", block(section, "sh").strip().equals(".ci/run"), true);
        CHECK.due(".ci/run can be run", Files.isExecutable(Path.of(".ci/run")), true);
        names(section, "`src/test/java`");
        names(section, "`../shared/tests`");
        names(section, "javac -d out src/main/java/HangWatch.java src/test/java/*.java\njava -cp out ");
        TreeSet<String> want = new TreeSet<>();
        try (Stream<Path> files = Files.list(Path.of("src/test/java"))) {
            files.map(file -> file.getFileName().toString()).filter(name -> name.endsWith("Test.java"))
                .forEach(name -> want.add(name.substring(0, name.length() - ".java".length())));
        }
        TreeSet<String> got = new TreeSet<>();
        Matcher named = Pattern.compile("\\b\\w+Test\\b").matcher(section);
        while (named.find()) {
            got.add(named.group());
        }
        CHECK.due("the tests " + got, got.equals(want), true);
    }
}
