import java.io.IOException;
import java.lang.reflect.Field;
import java.lang.reflect.Method;
import java.lang.reflect.Modifier;
import java.nio.file.Files;
import java.nio.file.Path;
import java.util.ArrayList;
import java.util.HashSet;
import java.util.List;
import java.util.Set;
import java.util.regex.Matcher;
import java.util.regex.Pattern;

/** Rules of LANGUAGE.md that can be seen in the class's text, or in its members. Runs from the root. */
public final class LanguageTest {
    private static final Checks C = new Checks("LanguageTest");
    private static final int CLASSES_MOST = 12;
    private static final int FIELDS_MOST = 20;
    private static final int PARAMETERS_MOST = 7;
    private static final int LINES_MOST = 60;
    private static final int LINE_MOST = 120;

    public static void main(String[] args) throws IOException {
        String source = Files.readString(Path.of("src/main/java/SortPacks.java"));
        String code = withoutCommentsAndTexts(source);
        library(code);
        exceptions(code);
        words(code);
        methodsAreShort(source);
        List<Class<?>> all = new ArrayList<>(List.of(SortPacks.class.getDeclaredClasses()));
        all.add(SortPacks.class);
        C.due("rule 11: classes", all.size() <= CLASSES_MOST ? 1 : 0, 1);
        for (Class<?> one : all) {
            members(one);
            fields(one, new HashSet<>(all));
        }
        C.finish();
    }

    private static String withoutCommentsAndTexts(String source) {
        return source.replaceAll("\"(\\\\.|[^\"\\\\])*\"", "\"\"").replaceAll("(?s)/\\*.*?\\*/", "")
            .replaceAll("//[^\n]*", "");
    }

    private static void none(String rule, String code, String pattern) {
        Matcher found = Pattern.compile(pattern).matcher(code);
        C.due(rule + ": " + (found.find() ? found.group() : pattern), found.reset().find() ? 1 : 0, 0);
    }

    private static void library(String code) {
        none("one file without a package", code, "(?m)^\\s*package\\b");
        none("rule 4", code.replace("import java.util.Arrays;", ""), "\\bimport\\b");
        none("rule 4", code.replace("import java.util.Arrays;", ""), "\\bjavax?\\.");
        none("rule 4", code, "\\bArrays\\.(?!(copyOf|copyOfRange|fill)\\()");
        none("rule 4", code, "\\bSystem\\.(?!arraycopy\\()");
        none("rule 4", code, "\\bMath\\.(?!(max|min|abs)\\()");
    }

    private static void exceptions(String code) {
        none("rule 6", code, "\\b(try|catch|finally|synchronized|assert|instanceof)\\b");
        none("rule 6", code, "\\bthrow\\b(?! new ArrayIndexOutOfBoundsException\\(\"\"\\);)");
        C.due("rule 6: the one throw of the face", code.split("\\bthrow\\b", -1).length - 1, 1);
        none("rule 6", code, "\\.(equals|hashCode|toString|getMessage)\\(");
    }

    private static void words(String code) {
        none("rule 2", code, "->|::");
        none("rule 3", code, "\\b(double|float|Object|Random|Thread|Iterator|Map|Set)\\b");
        none("rule 9", code, "while \\(true\\)|for \\(;|for \\([^;]*; *;");
    }

    /** A method stands from the line that opens it to the brace with the same indent. */
    private static void methodsAreShort(String source) {
        String[] lines = source.split("\n");
        int methods = 0;
        for (int from = 0; from < lines.length; from++) {
            C.due("line " + (from + 1) + " is not too long", lines[from].length() <= LINE_MOST ? 1 : 0, 1);
            Matcher opens = Pattern.compile("^( {4}| {8})(?! )(?!.*\\bclass\\b).*\\(.*\\{$").matcher(lines[from]);
            if (!opens.find()) {
                continue;
            }
            int to = from + 1;
            while (to < lines.length && !lines[to].equals(opens.group(1) + "}")) {
                to++;
            }
            methods++;
            C.due("rule 11: lines of " + lines[from].trim(), to - from < LINES_MOST ? 1 : 0, 1);
        }
        C.due("methods were found", methods > 100 ? 1 : 0, 1);
    }

    private static void members(Class<?> one) {
        C.due("rule 1: " + one + " is static or the face",
            one == SortPacks.class || Modifier.isStatic(one.getModifiers()) ? 1 : 0, 1);
        Set<String> face = new HashSet<>();
        for (Method m : SortPacks.class.getDeclaredMethods()) {
            if (Modifier.isPublic(m.getModifiers())) {
                face.add(m.getName());
            }
        }
        for (Method m : one.getDeclaredMethods()) {
            boolean hidden = Modifier.isPrivate(m.getModifiers()) && face.contains(m.getName());
            C.due("rule 1: " + m + " bears the name of a public one", hidden ? 1 : 0, 0);
            C.due("rule 11: parameters of " + m, m.getParameterCount() <= PARAMETERS_MOST ? 1 : 0, 1);
        }
    }

    private static void fields(Class<?> one, Set<Class<?>> own) {
        int held = 0;
        for (Field f : one.getDeclaredFields()) {
            Class<?> type = f.getType();
            if (Modifier.isStatic(f.getModifiers())) {
                boolean constant = Modifier.isFinal(f.getModifiers()) && (type == int.class || type == long.class);
                C.due("rule 5: " + f + " is a constant", constant ? 1 : 0, 1);
            } else {
                held++;
                C.due("rule 3: " + f, isListed(type, own) ? 1 : 0, 1);
            }
        }
        C.due("rule 11: fields of " + one, held <= FIELDS_MOST ? 1 : 0, 1);
    }

    private static boolean isListed(Class<?> type, Set<Class<?>> own) {
        if (!type.isArray()) {
            return type.isPrimitive() || own.contains(type);
        }
        Class<?> inner = type.getComponentType();
        boolean twice = inner.isArray() && inner.getComponentType().isPrimitive();
        return twice || inner.isPrimitive() || own.contains(inner);
    }
}
