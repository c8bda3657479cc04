import java.io.IOException;
import java.lang.reflect.Method;
import java.lang.reflect.Modifier;
import java.net.URL;
import java.net.URLClassLoader;
import java.nio.file.DirectoryStream;
import java.nio.file.Files;
import java.nio.file.Path;
import java.util.ArrayList;
import java.util.List;
import java.util.regex.Matcher;
import java.util.regex.Pattern;
import javax.tools.ToolProvider;

/** What README.md tells of the class is so: its examples are compiled and answer as it says, and no call is left out. */
public final class ReadmeTests extends Due {
    private static final Path README = Path.of("README.md");
    private static final String EXAMPLE = "ReadmeExample";
    /** A call of an example, and behind it the answer that README.md tells. */
    private static final Pattern TOLD = Pattern.compile("(town\\.\\w+\\(.*\\)); +// (-?[0-9]+|BAD|NO|NONE|FULL): .*");
    private static final Pattern CALL = Pattern.compile("(\\w+)\\((.*)\\)");

    public static void main(String[] args) throws Exception {
        List<String> lines = Files.readAllLines(README);
        examplesAnswerAsTold(javaOf(lines));
        eachCallHasAPlace(lines);
        end();
    }

    private static void examplesAnswerAsTold(List<String> code) throws Exception {
        sentence("README.md's examples");
        List<String> calls = new ArrayList<>();
        List<Long> told = new ArrayList<>();
        for (String line : code) {
            Matcher m = TOLD.matcher(line);
            if (m.matches()) {
                calls.add(m.group(1));
                told.add(numberOf(m.group(2)));
            } else {
                due("an answer in another form: " + line, line.contains("//") ? 1 : 0, 0);
            }
        }
        due("there are answers to hold", calls.isEmpty() ? 0 : 1, 1);
        long[] answers = answersOf(code);
        due("answers", answers.length, calls.size());
        for (int i = 0; i < answers.length && i < calls.size(); i++) {
            due("answer " + i + ": " + calls.get(i), answers[i], told.get(i));
        }
    }

    /** What stands in the blocks that README.md marks as java. */
    private static List<String> javaOf(List<String> lines) {
        List<String> code = new ArrayList<>();
        boolean inside = false;
        for (String line : lines) {
            if (line.startsWith("```")) {
                inside = line.equals("```java");
            } else if (inside) {
                code.add(line);
            }
        }
        return code;
    }

    private static long numberOf(String answer) throws ReflectiveOperationException {
        boolean isConstant = Character.isLetter(answer.charAt(0));
        return isConstant ? WhaleTown.class.getField(answer).getInt(null) : Long.parseLong(answer);
    }

    /** None, and a line that says so, if the examples can't be compiled. */
    private static long[] answersOf(List<String> code) throws Exception {
        Path folder = Files.createTempDirectory("readme");
        try {
            Path source = Files.writeString(folder.resolve(EXAMPLE + ".java"), sourceOf(code));
            int exit = ToolProvider.getSystemJavaCompiler().run(null, null, null, "-proc:none", "-d", folder.toString(),
                    "-cp", System.getProperty("java.class.path"), source.toString());
            due("compiling them", exit, 0);
            if (exit != 0) {
                return new long[0];
            }
            try (URLClassLoader loader = new URLClassLoader(new URL[] {folder.toUri().toURL()})) {
                return (long[]) loader.loadClass(EXAMPLE).getMethod("answers").invoke(null);
            }
        } finally {
            remove(folder);
        }
    }

    /** A class that hands out the answers that README.md tells of, in their order. */
    private static String sourceOf(List<String> code) {
        StringBuilder source = new StringBuilder("public final class " + EXAMPLE + " {\npublic static long[] answers() {\n");
        source.append("long[] answers = new long[").append(code.size()).append("];\nint count = 0;\n");
        for (String line : code) {
            Matcher m = TOLD.matcher(line);
            source.append(m.matches() ? "answers[count++] = " + m.group(1) + ";" : line).append('\n');
        }
        return source.append("return java.util.Arrays.copyOf(answers, count);\n}\n}\n").toString();
    }

    private static void remove(Path folder) throws IOException {
        try (DirectoryStream<Path> files = Files.newDirectoryStream(folder)) {
            for (Path file : files) {
                Files.delete(file);
            }
        }
        Files.delete(folder);
    }

    private static void eachCallHasAPlace(List<String> lines) {
        sentence("README.md's table");
        for (Method m : WhaleTown.class.getDeclaredMethods()) {
            if (Modifier.isPublic(m.getModifiers())) {
                due("places of " + m.getName(), placesOf(m, lines), 1);
            }
        }
    }

    private static int placesOf(Method m, List<String> lines) {
        int places = 0;
        for (String line : lines) {
            if (line.startsWith("| `")) {
                for (String piece : line.substring(0, line.indexOf('|', 1)).split("`")) {
                    places += tells(piece, m) ? 1 : 0;
                }
            }
        }
        return places;
    }

    /** By its name and how many numbers it takes. */
    private static boolean tells(String call, Method m) {
        Matcher parts = CALL.matcher(call);
        if (!parts.matches() || !parts.group(1).equals(m.getName())) {
            return false;
        }
        int numbers = parts.group(2).isEmpty() ? 0 : parts.group(2).split(", ").length;
        return numbers == m.getParameterCount();
    }
}
