import java.io.ByteArrayOutputStream;
import java.io.IOException;
import java.io.PrintStream;
import java.lang.reflect.Method;
import java.lang.reflect.Modifier;
import java.nio.charset.StandardCharsets;
import java.nio.file.Files;
import java.nio.file.Path;
import java.util.ArrayList;
import java.util.List;

/** README.md holds: its example prints what it says, and its table is that of the face. */
public final class ReadmeTest {
    private static final String PRINTS = "        print(";

    public static void main(String[] args) throws IOException {
        Checks checks = new Checks("ReadmeTest");
        List<String> readme = Files.readAllLines(Path.of("README.md"));
        List<String> example = exampleOf(readme);
        List<String> source = Files.readAllLines(Path.of("src/test/java/Example.java"));
        checks.isText("the example of README.md", String.join("\n", source.subList(1, source.size())),
            String.join("\n", example));
        checks.isText("what the example prints", String.join("\n", toldAnswers(example)), printed());
        tableIsThatOfTheFace(checks, readme);
        checks.end();
    }

    private static List<String> exampleOf(List<String> readme) {
        int begin = readme.indexOf("```java");
        List<String> rest = readme.subList(begin + 1, readme.size());
        return rest.subList(0, rest.indexOf("```"));
    }

    /** Behind each line that prints: the words of its remark ahead of a colon. */
    private static List<String> toldAnswers(List<String> example) {
        List<String> answers = new ArrayList<>();
        for (String line : example) {
            if (line.startsWith(PRINTS) || line.startsWith("    " + PRINTS)) {
                answers.add(line.substring(line.indexOf("// ") + 3).split(": ")[0]);
            }
        }
        return answers;
    }

    private static String printed() {
        PrintStream out = System.out;
        ByteArrayOutputStream bytes = new ByteArrayOutputStream();
        System.setOut(new PrintStream(bytes, true, StandardCharsets.UTF_8));
        try {
            Example.main(new String[0]);
        } finally {
            System.setOut(out);
        }
        return bytes.toString(StandardCharsets.UTF_8).replace("\r", "").trim();
    }

    private static void tableIsThatOfTheFace(Checks checks, List<String> readme) {
        int methods = 0;
        for (Method method : Wallcode.class.getDeclaredMethods()) {
            if (Modifier.isPublic(method.getModifiers())) {
                methods++;
                checks.isText("the row of " + method.getName(), told(method), toldOf(readme, method.getName()));
            }
        }
        long rows = readme.stream().filter(line -> line.startsWith("| `")).count();
        checks.is("rows", methods, rows);
    }

    private static String told(Method method) {
        StringBuilder text = new StringBuilder(method.getParameterCount() + " arguments");
        for (Class<?> type : method.getExceptionTypes()) {
            String name = type.getSimpleName();
            text.append(' ').append(name.replaceAll("^Illegal|OutOfBounds|Exception$", ""));
        }
        return text.toString();
    }

    /** The same of the row in the table: of its last column the words that name exceptions. */
    private static String toldOf(List<String> readme, String name) {
        for (String line : readme) {
            if (line.startsWith("| `" + name + "(")) {
                String arguments = line.substring(line.indexOf('(') + 1, line.indexOf(')'));
                int count = arguments.isEmpty() ? 0 : arguments.split(", ").length;
                StringBuilder text = new StringBuilder(count + " arguments");
                String[] columns = line.split(" \\| ");
                for (String thrown : columns[columns.length - 1].replace(" |", "").split("; ")) {
                    String word = thrown.split(":")[0];
                    text.append(word.equals("nothing") ? "" : " " + word);
                }
                return text.toString();
            }
        }
        return "no row";
    }
}
