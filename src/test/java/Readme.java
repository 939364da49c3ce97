import java.io.IOException;
import java.nio.file.Files;
import java.nio.file.Path;
import java.util.regex.Matcher;
import java.util.regex.Pattern;

/** README.md tells how the class is used: its example must be so, and it must name each call and no other one. */
public final class Readme {
    private static final Pattern TEXT = Pattern.compile("String text = \"([^\"]*)\";");
    private static final Pattern ROW = Pattern.compile("(?m)^x\\.(\\w+)\\(([-\\d, ]*)\\); +// (-?\\d+):");
    private static final Pattern NAMED = Pattern.compile("`(\\w+)\\(([^)`]*)\\)`");

    private static int[] numbers(String told) {
        String[] parts = told.isBlank() ? new String[0] : told.split(",");
        int[] given = new int[parts.length];
        for (int i = 0; i < given.length; i++) {
            given[i] = Integer.parseInt(parts[i].trim());
        }
        return given;
    }

    private static long answer(HotDots x, String name, int[] given) throws ReflectiveOperationException {
        for (java.lang.reflect.Method m : HotDots.class.getMethods()) {
            if (m.getName().equals(name) && m.getParameterCount() == given.length) {
                Object[] boxed = java.util.Arrays.stream(given).boxed().toArray();
                return ((Number) m.invoke(x, boxed)).longValue();
            }
        }
        throw new IllegalStateException("there is no " + name + " of " + given.length);
    }

    private static void example(Due due, String readme) throws ReflectiveOperationException {
        Matcher text = TEXT.matcher(readme);
        due.is("README.md has a text", text.find() ? 1 : 0, 1);
        HotDots x = new HotDots();
        Due.feed(x, text.group(1));
        int rows = 0;
        for (Matcher row = ROW.matcher(readme); row.find(); rows++) {
            long got = answer(x, row.group(1), numbers(row.group(2)));
            due.is(row.group().trim(), got, Long.parseLong(row.group(3)));
        }
        due.is("rows of the example were looked at", rows >= 4 ? 1 : 0, 1);
    }

    /** A call is named in a table as by its document: with as many numbers as it takes. */
    private static void calls(Due due, String readme) {
        java.util.Set<String> named = new java.util.TreeSet<>();
        for (Matcher m = NAMED.matcher(readme); m.find();) {
            named.add(m.group(1) + " " + (m.group(2).isBlank() ? 0 : m.group(2).split(",").length));
        }
        java.util.Set<String> face = new java.util.TreeSet<>();
        for (java.lang.reflect.Method m : HotDots.class.getDeclaredMethods()) {
            if (java.lang.reflect.Modifier.isPublic(m.getModifiers())) {
                face.add(m.getName() + " " + m.getParameterCount());
            }
        }
        java.util.Set<String> missing = new java.util.TreeSet<>(face);
        missing.removeAll(named);
        due.is("calls that README.md does not name " + missing, missing.size(), 0);
        named.removeAll(face);
        due.is("calls that README.md names, but there are not " + named, named.size(), 0);
    }

    public static void main(String[] args) throws IOException, ReflectiveOperationException {
        Due due = new Due("Readme");
        String readme = Files.readString(Path.of("README.md"));
        example(due, readme);
        calls(due, readme);
        due.close();
    }
}
