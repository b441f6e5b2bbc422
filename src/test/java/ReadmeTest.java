import java.lang.reflect.Field;
import java.lang.reflect.Method;
import java.lang.reflect.Modifier;
import java.nio.charset.StandardCharsets;
import java.nio.file.Files;
import java.nio.file.Path;
import java.util.ArrayList;
import java.util.List;
import java.util.Set;
import java.util.TreeSet;
import java.util.regex.Matcher;
import java.util.regex.Pattern;
import javax.tools.JavaCompiler;
import javax.tools.ToolProvider;

/** README.md: its examples are compiled and run as they stand there, and no call or constant is left out of it. */
public final class ReadmeTest extends Checks {
    private static final Path README = Path.of("README.md");
    private static final Pattern ANSWERED = Pattern.compile("\\s*axis\\.((\\w+)\\(.*?\\));\\s*// (-?\\d+|[A-Z]{3,})\\b.*");

    /** The lines of the java examples, those with an answer turned into a check of it. */
    private static List<String> examples(String readme, Set<String> answered) {
        List<String> lines = new ArrayList<>();
        boolean inside = false;
        for (String line : readme.split("\n")) {
            if (line.startsWith("```")) {
                inside = line.equals("```java");
            } else if (inside) {
                Matcher matcher = ANSWERED.matcher(line);
                if (matcher.matches()) {
                    String want = matcher.group(3);
                    boolean named = Character.isLetter(want.charAt(0));
                    lines.add("Checks.due(\"" + matcher.group(1) + "\", axis." + matcher.group(1) + ", "
                            + (named ? "AxisTable." : "") + want + ");");
                    answered.add(matcher.group(2));
                } else {
                    lines.add(line);
                }
            }
        }
        return lines;
    }

    /** The examples are one run on one object, so they are one method; it is put beside this test's own class. */
    private static void runExamples(List<String> lines) throws Exception {
        String classes = System.getProperty("java.class.path");
        Path file = Path.of(classes, "Examples.java");
        Files.writeString(file, "public final class Examples implements Runnable {\npublic void run() {\n"
                + String.join("\n", lines) + "\n}\n}\n", StandardCharsets.UTF_8);
        JavaCompiler compiler = ToolProvider.getSystemJavaCompiler();
        int failed = compiler == null ? -1
                : compiler.run(null, null, null, "-cp", classes, "-d", classes, file.toString());
        due("compiling the examples", failed, 0);
        if (failed == 0) {
            ((Runnable) Class.forName("Examples").getDeclaredConstructor().newInstance()).run();
        }
    }

    private static void allIsNamed(String readme, Set<String> answered) throws Exception {
        Set<String> unanswered = new TreeSet<>();
        for (Method method : AxisTable.class.getDeclaredMethods()) {
            if (Modifier.isPublic(method.getModifiers())) {
                due("the table's row of " + method.getName(), readme.contains("\n| `" + method.getName() + "(") ? 1 : 0, 1);
                unanswered.add(method.getName());
            }
        }
        unanswered.removeAll(answered);
        due("calls without an example that is answered", unanswered.toString(), "[write]");
        for (Field field : AxisTable.class.getDeclaredFields()) {
            if (Modifier.isPublic(field.getModifiers())) {
                String name = "`" + field.getName() + "`";
                String number = Integer.toString(field.getInt(null));
                boolean told = readme.contains("| " + name + " | " + number + " |") || readme.contains(name + " (" + number + ")");
                due(name + " with its number", told ? 1 : 0, 1);
            }
        }
    }

    public static void main(String[] args) throws Exception {
        String readme = Files.readString(README, StandardCharsets.UTF_8);
        Set<String> answered = new TreeSet<>();
        List<String> lines = examples(readme, answered);
        runExamples(lines);
        allIsNamed(readme, answered);
        finish();
    }
}
