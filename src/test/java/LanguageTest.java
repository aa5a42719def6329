import java.io.IOException;
import java.lang.reflect.Constructor;
import java.lang.reflect.Field;
import java.lang.reflect.Method;
import java.lang.reflect.Modifier;
import java.nio.file.Files;
import java.nio.file.Path;
import java.util.Arrays;
import java.util.List;
import java.util.TreeSet;
import java.util.regex.Matcher;
import java.util.regex.Pattern;

/** The rules of LANGUAGE.md that can be seen in the source or by reflection, and the face of the document. */
public final class LanguageTest {
    private static final Check CHECK = new Check("LanguageTest");
    private static final String[] FACE = {
        "int feed(int,int,int,int,int)", "int end(int)", "int text()", "int fault(int)", "int ticks(int)", "int watch()",
        "boolean free(int)", "boolean within(boolean,int)", "int undo()", "int count(int)", "int worker(int,int)",
        "int step(int,int,boolean)", "int holder(int)", "int pipe(int,boolean)", "int messages(int,int)", "int waits(int)",
        "int way(int,int)", "int ring(int)", "int stall(int,int)", "int freed(int)", "int later(int,int)", "int ends(int)",
        "int told(int,int)", "int fewest(boolean)", "boolean image(int)", "boolean again(int)"};

    public static void main(String[] args) throws IOException {
        face();
        members();
        source();
        CHECK.finish();
    }

    private static String shape(Method method) {
        List<String> types = Arrays.stream(method.getParameterTypes()).map(Class::getSimpleName).toList();
        return method.getReturnType().getSimpleName() + " " + method.getName() + "(" + String.join(",", types) + ")";
    }

    private static void face() {
        TreeSet<String> want = new TreeSet<>(Arrays.asList(FACE));
        TreeSet<String> got = new TreeSet<>();
        for (Method method : HangWatch.class.getDeclaredMethods()) {
            if (!Modifier.isPrivate(method.getModifiers())) {
                CHECK.due(method + " is public and of the object", method.getModifiers(), Modifier.PUBLIC);
                got.add(shape(method));
            }
        }
        CHECK.due("the face " + got, got.equals(want), true);
        CHECK.due("the class is public and final", HangWatch.class.getModifiers(), Modifier.PUBLIC | Modifier.FINAL);
        Constructor<?>[] constructors = HangWatch.class.getDeclaredConstructors();
        CHECK.due("one constructor", constructors.length, 1);
        CHECK.due("without parameters", constructors[0].getParameterCount(), 0);
        CHECK.due("public", constructors[0].getModifiers(), Modifier.PUBLIC);
        CHECK.due("the constant", HangWatch.NONE, -1);
    }

    private static void members() {
        TreeSet<String> names = new TreeSet<>();
        for (String shape : FACE) {
            names.add(shape.replaceAll(".* (\\w+)\\(.*", "$1"));
        }
        Class<?>[] inside = HangWatch.class.getDeclaredClasses();
        CHECK.due("at most twelve classes", inside.length + 1 <= 12, true);
        for (Field field : HangWatch.class.getDeclaredFields()) {
            boolean hidden = Modifier.isPrivate(field.getModifiers()) || field.getName().equals("NONE");
            CHECK.due(field + " is private", hidden, true);
        }
        for (Method method : HangWatch.class.getDeclaredMethods()) {
            boolean hidden = Modifier.isPrivate(method.getModifiers());
            CHECK.due(method + " has a name of its own", hidden && names.contains(method.getName()), false);
            CHECK.due(method + " takes few", method.getParameterCount() <= 7, true);
        }
        fields(HangWatch.class);
        for (Class<?> type : inside) {
            CHECK.due(type + " is static", Modifier.isStatic(type.getModifiers()), true);
            fields(type);
            for (Method method : type.getDeclaredMethods()) {
                CHECK.due(method + " has a name of its own", names.contains(method.getName()), false);
                CHECK.due(method + " takes few", method.getParameterCount() <= 7, true);
            }
        }
    }

    private static void fields(Class<?> type) {
        int fields = 0;
        for (Field field : type.getDeclaredFields()) {
            boolean isStatic = Modifier.isStatic(field.getModifiers());
            CHECK.due(field + " is final", isStatic && !Modifier.isFinal(field.getModifiers()), false);
            fields += isStatic ? 0 : 1;
        }
        CHECK.due(type + " has at most twenty fields", fields <= 20, true);
    }

    private static void source() throws IOException {
        String text = Files.readString(Path.of("src/main/java/HangWatch.java"));
        String bare = text.replaceAll("(?s)/\\*.*?\\*/", "").replaceAll("//[^\n]*", "").replaceAll("\"[^\"]*\"", "\"\"");
        String[] ruledOut = {"throw", "throws", "try", "catch", "synchronized", "assert", "package", "hashCode", "toString",
            "instanceof", "native", "volatile", "transient", "protected"};
        for (String word : ruledOut) {
            CHECK.due("no " + word, Pattern.compile("\\b" + word + "\\b").matcher(bare).find(), false);
        }
        CHECK.due("no lambda", bare.contains("->"), false);
        CHECK.due("no method reference", bare.contains("::"), false);
        CHECK.due("signs 1 to 127 alone", text.chars().allMatch(sign -> sign > 0 && sign < 128), true);
        Matcher imports = Pattern.compile("import ([^;]*);").matcher(bare);
        while (imports.find()) {
            CHECK.due("import " + imports.group(1), imports.group(1).equals("java.util.Arrays"), true);
        }
        shortMethods(bare.split("\n"));
        objectsMade(bare.split("\n"));
    }

    private static void shortMethods(String[] lines) {
        Pattern head = Pattern.compile("^( {4}| {8})(?!\\s)[^=;]*\\)\\s*\\{$");
        for (int i = 0; i < lines.length; i++) {
            Matcher matcher = head.matcher(lines[i]);
            if (matcher.find()) {
                int end = i;
                while (!lines[end].equals(matcher.group(1) + "}")) {
                    end++;
                }
                CHECK.due("a short method: " + lines[i].strip(), end - i < 60, true);
            }
        }
    }

    /** All rows are made with the object, but for the images: a call that made more would fill the room. */
    private static void objectsMade(String[] lines) {
        int others = 0;
        for (String line : lines) {
            boolean field = line.matches("\\s+(private )?final .* = new .*;");
            if (line.matches(".*\\bnew .*") && !field) {
                others++;
            }
        }
        CHECK.due("the image's, and the two of the history", others, 3);
    }
}
