import java.lang.reflect.Constructor;
import java.lang.reflect.Field;
import java.lang.reflect.Method;
import java.lang.reflect.Modifier;
import java.nio.charset.StandardCharsets;
import java.nio.file.Files;
import java.nio.file.Path;
import java.util.ArrayList;
import java.util.Arrays;
import java.util.List;
import java.util.Set;
import java.util.TreeSet;
import java.util.regex.Matcher;
import java.util.regex.Pattern;

/** The face of the class, and those rules of LANGUAGE.md that can be seen in the source or in the class file. */
public final class LanguageTest {
    private static final Path SOURCE = Path.of("src/main/java/AxisTable.java");
    private static final String[] METHODS = {"write/1", "erase/0", "fault/0", "axis/0", "run/3", "clear/2", "undo/0",
        "keep/1", "back/1", "runAt/3", "point/3", "table/2", "play/1", "worst/0", "merged/3", "move/1", "countOf/1",
        "placeOf/1", "told/1", "sheet/1", "label/1", "insert/3", "cut/3", "join/2", "turn/1", "letter/2", "compare/2",
        "times/1", "word/1", "value/1", "drop/1"};
    private static final String[] CONSTANTS = {"NONE", "UNKNOWN", "OUTSIDE", "NOT", "FULL", "NULL", "INDEX", "ROOM",
        "NUMBER"};
    private static final String[] FORBIDDEN = {"\\bthrow\\b", "\\bthrows\\b", "\\btry\\b", "\\bcatch\\b", "\\bassert\\b",
        "\\bsynchronized\\b", "\\bimport\\b", "\\bpackage\\b", "->", "::", "\\w+Exact\\b", "\\bSystem\\.(?!arraycopy)",
        "\\bThread\\b", "\\bstatic\\s*\\{", "\\binstanceof\\b", "\\bfloat\\b", "\\bdouble\\b"};

    /** Of the library's static functions, those that the class needs; a new one is looked up in LANGUAGE.md first. */
    private static final Set<String> LIBRARY = Set.of("Math.abs", "Math.floorDiv", "Math.max", "Math.min",
            "Integer.compare", "System.arraycopy");
    private static final Pattern LIBRARY_CALL = Pattern.compile(
            "\\b(?:Math|StrictMath|Integer|Long|Short|Byte|Character|Boolean|Double|Float|String|Arrays|List|System)\\.\\w+");

    private static int wrong = 0;

    private static void due(boolean holds, String what) {
        if (!holds) {
            wrong++;
            System.out.println("does not hold: " + what);
        }
    }

    private static void face() {
        int modifiers = AxisTable.class.getModifiers();
        due(Modifier.isPublic(modifiers) && Modifier.isFinal(modifiers), "the class is public and final");
        Set<String> methods = new TreeSet<>();
        for (Method method : AxisTable.class.getDeclaredMethods()) {
            if (!Modifier.isPrivate(method.getModifiers())) {
                methods.add(method.getName() + "/" + method.getParameterCount());
                due(Modifier.isPublic(method.getModifiers()) && !Modifier.isStatic(method.getModifiers()), "public: " + method);
                due(method.getReturnType() == int.class, "answers an int: " + method);
                due(Arrays.stream(method.getParameterTypes()).allMatch(type -> type == int.class), "takes ints: " + method);
            }
        }
        due(methods.equals(new TreeSet<>(List.of(METHODS))), "the methods are those of the document: " + methods);
        Set<String> constants = new TreeSet<>();
        for (Field field : AxisTable.class.getDeclaredFields()) {
            if (!Modifier.isPrivate(field.getModifiers())) {
                constants.add(field.getName());
            }
        }
        due(constants.equals(new TreeSet<>(List.of(CONSTANTS))), "the constants are those of the document: " + constants);
        Constructor<?>[] constructors = AxisTable.class.getDeclaredConstructors();
        due(constructors.length == 1 && constructors[0].getParameterCount() == 0, "one constructor");
        due(AxisTable.class.getInterfaces().length == 0, "no interfaces");
    }

    private static void insideClasses() {
        Set<String> names = new TreeSet<>();
        for (String method : METHODS) {
            names.add(method.substring(0, method.indexOf('/')));
        }
        Class<?>[] inside = AxisTable.class.getDeclaredClasses();
        due(inside.length <= 11, "twelve classes at most");
        List<Class<?>> all = new ArrayList<>(List.of(inside));
        all.add(AxisTable.class);
        for (Class<?> one : all) {
            due(one == AxisTable.class || Modifier.isStatic(one.getModifiers()), "static: " + one);
            int fields = 0;
            for (Field field : one.getDeclaredFields()) {
                boolean fixed = Modifier.isStatic(field.getModifiers());
                fields += fixed ? 0 : 1;
                due(!fixed || Modifier.isFinal(field.getModifiers()), "static fields are final: " + field);
            }
            due(fields <= 20, "twenty fields at most: " + one);
            for (Method method : one.getDeclaredMethods()) {
                due(one == AxisTable.class && Modifier.isPublic(method.getModifiers()) || !names.contains(method.getName()),
                        "no other method bears a public one's name: " + method);
                due(method.getParameterCount() <= 7, "seven parameters at most: " + method);
                due(!method.isSynthetic(), "nothing that the compiler must add: " + method);
            }
        }
    }

    /** The source without comments and with its texts emptied. */
    private static String bare(String source) {
        Matcher matcher = Pattern.compile("/\\*.*?\\*/|//[^\n]*|\"(?:\\\\.|[^\"\\\\])*\"|'(?:\\\\.|[^'\\\\])'", Pattern.DOTALL)
                .matcher(source);
        return matcher.replaceAll(found -> found.group().startsWith("\"") ? "\"\"" : found.group().startsWith("'") ? "'_'" : "");
    }

    private static void source() throws Exception {
        String source = Files.readString(SOURCE, StandardCharsets.UTF_8);
        due(source.chars().allMatch(sign -> sign == '\n' || sign >= 32 && sign < 127), "plain signs alone");
        String bare = bare(source);
        for (String pattern : FORBIDDEN) {
            Matcher matcher = Pattern.compile(pattern).matcher(bare);
            due(!matcher.find(), "no " + pattern + " in the source");
        }
        Matcher library = LIBRARY_CALL.matcher(bare);
        while (library.find()) {
            due(LIBRARY.contains(library.group()), "of the library what is listed alone: " + library.group());
        }
        due(!Pattern.compile("\"\"\\s*\\+|\\+\\s*\"\"").matcher(bare).find(), "texts are not joined by +");
    }

    /** No method of 60 lines or more, and rows and objects are made only when an object is made. */
    private static void methods() throws Exception {
        String[] lines = bare(Files.readString(SOURCE, StandardCharsets.UTF_8)).split("\n", -1);
        Pattern head = Pattern.compile("^\\s*(?:public |private |static |final )*(?:(\\w+(?:\\[\\])?) )?(\\w+)\\([^()]*\\) \\{$");
        int start = -1;
        int depth = 0;
        int outer = 0;
        boolean builds = false;
        for (int k = 0; k < lines.length; k++) {
            Matcher matcher = head.matcher(lines[k]);
            if (start < 0 && matcher.matches()) {
                start = k;
                outer = depth;
                builds = matcher.group(1) == null;
            }
            due(start < 0 || builds || !lines[k].contains("new "), "nothing is made in a call: line " + (k + 1));
            depth += lines[k].replaceAll("[^{]", "").length() - lines[k].replaceAll("[^}]", "").length();
            if (start >= 0 && depth == outer) {
                due(k - start < 60, "sixty lines at most: line " + (start + 1));
                start = -1;
            }
        }
        due(depth == 0, "the brackets close");
    }

    public static void main(String[] args) throws Exception {
        face();
        insideClasses();
        source();
        methods();
        System.out.println(wrong == 0 ? "the language is kept" : wrong + " rules broken");
        if (wrong != 0) {
            System.exit(1);
        }
    }
}
