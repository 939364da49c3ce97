import java.io.IOException;
import java.lang.reflect.Field;
import java.lang.reflect.Modifier;
import java.nio.file.Files;
import java.nio.file.Path;
import java.util.List;
import java.util.regex.Matcher;
import java.util.regex.Pattern;

/** The rules of LANGUAGE.md that can be looked at in the source, given as the first argument. */
public final class Language {
    private static final String[] FORBIDDEN = {
        "\\b(throw|throws|try|catch|finally|synchronized|assert|package|native|volatile|transient)\\b",
        "->", "::", "@", "\\bvar\\b", "\\bSystem\\.(?!arraycopy\\()", "\\bMath\\.\\w*Exact\\b",
        "\\bArrays\\.(?!(fill|copyOf|copyOfRange)\\()", "\\bMath\\.(?!(max|min|abs|floorDiv|floorMod)\\()",
        "\\bInteger\\.(?!bitCount\\()", "\\bstatic\\s*\\{", "\\bprotected\\b",
        "\\b(Object|Map|Set|Random|Thread|Collections|Optional|Stream)\\b"};
    private static final int MOST_LINES = 60, MOST_PARAMETERS = 7, MOST_CLASSES = 12, MOST_FIELDS = 20;
    private static final Due DUE = new Due("Language");

    private static String withoutWords(String source) {
        return source.replaceAll("(?s)/\\*.*?\\*/", "").replaceAll("//[^\n]*", "")
            .replaceAll("\"[^\"\n]*\"", "\"\"").replaceAll("'[^']*'", "' '");
    }

    private static int found(String pattern, String in) {
        int times = 0;
        for (Matcher m = Pattern.compile(pattern).matcher(in); m.find();) {
            times++;
        }
        return times;
    }

    private static void methods(String code) {
        Matcher m = Pattern.compile("\n( {4}| {8})(?:\\w+ )*\\w[\\w\\[\\]]* ?\\w*\\(([^)\n]*)\\) \\{\n").matcher(code);
        int seen = 0;
        while (m.find()) {
            seen++;
            int close = code.indexOf("\n" + m.group(1) + "}\n", m.end());
            int lines = code.substring(m.start() + 1, close + 1).split("\n").length + 1;
            String name = m.group().trim();
            DUE.is("lines of " + name, Math.max(lines, MOST_LINES), MOST_LINES);
            int parameters = m.group(2).isBlank() ? 0 : m.group(2).split(",").length;
            DUE.is("parameters of " + name, Math.max(parameters, MOST_PARAMETERS), MOST_PARAMETERS);
        }
        DUE.is("methods were looked at", seen >= 40 ? 1 : 0, 1);
    }

    /** All calls of a run live in one room, so objects are made by constructors and for fields alone. */
    private static void making(String code) {
        String constructorEnd = "";
        int made = 0;
        for (String line : code.split("\n")) {
            if (line.matches("( {4}public| {7}) [A-Z]\\w*\\(.*\\) \\{")) {
                constructorEnd = line.startsWith("    public") ? "    }" : "        }";
            } else if (line.equals(constructorEnd)) {
                constructorEnd = "";
            } else if (line.matches(".*\\bnew\\b.*")) {
                made++;
                boolean field = line.matches("( {4}private| {7}) final .* = new .*;");
                DUE.is("made outside of a constructor:" + line, field || !constructorEnd.isEmpty() ? 1 : 0, 1);
            }
            DUE.is("copies are made:" + line, found("\\b(clone|copyOf|copyOfRange|toCharArray|substring)\\(", line), 0);
        }
        DUE.is("places that make objects were looked at", made >= 10 ? 1 : 0, 1);
    }

    private static void fields(Class<?> of) {
        int own = 0;
        for (Field f : of.getDeclaredFields()) {
            own += Modifier.isStatic(f.getModifiers()) ? 0 : 1;
        }
        DUE.is("fields of " + of.getName(), Math.max(own, MOST_FIELDS), MOST_FIELDS);
    }

    public static void main(String[] args) throws IOException {
        String source = Files.readString(Path.of(args.length > 0 ? args[0] : "src/main/java/HotDots.java"));
        String code = withoutWords(source);
        for (String pattern : FORBIDDEN) {
            DUE.is("times of " + pattern, found(pattern, code), 0);
        }
        List<String> imports = List.of("import java.util.Arrays;", "import java.util.ArrayList;", "import java.util.List;");
        for (String line : code.split("\n")) {
            if (line.startsWith("import")) {
                DUE.is(line, imports.contains(line.trim()) ? 1 : 0, 1);
            }
        }
        DUE.is("signs beyond 127", found("[^\\x00-\\x7f]", source), 0);
        int classes = found("\\b(class|record|enum|interface) \\w+", code);
        DUE.is("classes", Math.max(classes, MOST_CLASSES), MOST_CLASSES);
        DUE.is("static fields that are not final", found("\\bstatic (?!final )[\\w\\[\\]]+ \\w+\\s*[=;]", code), 0);
        methods(code);
        making(code);
        fields(HotDots.class);
        for (Class<?> inside : HotDots.class.getDeclaredClasses()) {
            fields(inside);
        }
        DUE.close();
    }
}
