import java.io.IOException;
import java.lang.reflect.InvocationTargetException;
import java.lang.reflect.Method;
import java.lang.reflect.Modifier;
import java.nio.file.Files;
import java.nio.file.Path;
import java.util.ArrayList;
import java.util.Arrays;
import java.util.HashMap;
import java.util.HashSet;
import java.util.List;
import java.util.Map;
import java.util.Set;
import java.util.regex.Matcher;
import java.util.regex.Pattern;
import java.util.stream.Stream;

/**
 * The boundary cases that the document names, told in src/test/edges/*.txt: a block for each, of rows of calls on a
 * new object with the answers that are due. README.md there says how a row is written.
 */
public final class Edges {
    private static final Path FILES = Path.of("src/test/edges"), DOCUMENT = Path.of("../shared/DOC.md");
    private static final int PROMISES = 40, MOST_CALLS = 512;
    private static final String[] REFUSALS = {"BAD", "STATE", "FULL", "NONE"};
    private static final Pattern HEADER = Pattern.compile("== (\\d+) (.+)");
    private static final Pattern TIMES = Pattern.compile("(.*\\S) x(\\d+)");
    private static final Pattern CALL = Pattern.compile("(!?) ?(\\w+)\\(([^)]*)\\) = (\\S+)");
    private static final Pattern LETTERS = Pattern.compile("\"(.*)\"");
    private static final Pattern TEXT = Pattern.compile("<(.*)> = (\\S+)(?: fault (\\d))?");
    private static final Pattern CHOICE = Pattern.compile("(.*?)\\{([^}]*)\\}(.*)");
    private static final Map<String, Method> METHODS = methods();

    private final Due due = new Due("Edges");
    /** The promises that have a block, each with what its call answers in the rows of its blocks. */
    private final Map<Integer, Set<String>> met = new HashMap<>();
    private final List<Call> made = new ArrayList<>();
    private HotDots x = new HotDots();
    private int promise;
    private String where = "";

    private static final class Call {
        final String name;
        final Object[] given;

        Call(String name, int... given) {
            this.name = name;
            this.given = Arrays.stream(given).boxed().toArray();
        }

        @Override
        public String toString() {
            return name + Arrays.toString(given);
        }
    }

    private static Map<String, Method> methods() {
        Map<String, Method> all = new HashMap<>();
        for (Method m : HotDots.class.getDeclaredMethods()) {
            if (Modifier.isPublic(m.getModifiers())) {
                all.put(m.getName(), m);
            }
        }
        return all;
    }

    private static long answer(HotDots on, Call call) {
        Method m = METHODS.get(call.name);
        if (m == null || m.getParameterCount() != call.given.length) {
            throw new IllegalArgumentException("there is no " + call);
        }
        try {
            return ((Number) m.invoke(on, call.given)).longValue();
        } catch (IllegalAccessException | InvocationTargetException e) {
            System.out.println(call + " threw " + e.getCause());
            return Long.MIN_VALUE;
        }
    }

    // ---- numbers

    private static int word(String word) {
        switch (word) {
            case "BAD": return -1;
            case "STATE": return -2;
            case "FULL": return -3;
            case "NONE": return -4;
            case "MIN": return Integer.MIN_VALUE;
            case "MAX": return Integer.MAX_VALUE;
            default: return Integer.parseInt(word);
        }
    }

    /** A number, or sums, differences and products of numbers (2*8+1-3). */
    private static long number(String told) {
        long sum = 0;
        Matcher m = Pattern.compile("([+-]?)([^+-]+)").matcher(told);
        while (m.find()) {
            long product = m.group(1).equals("-") ? -1 : 1;
            for (String factor : m.group(2).split("\\*")) {
                product *= word(factor);
            }
            sum += product;
        }
        return sum;
    }

    private static int[] numbers(String told) {
        return told.isBlank() ? new int[0] : Arrays.stream(told.split(", *")).mapToInt(s -> (int) number(s)).toArray();
    }

    /** A row with {a,b} in it is a row with a and one with b. */
    private static List<String> choices(String row) {
        Matcher m = CHOICE.matcher(row);
        if (row.startsWith("<") || row.startsWith("\"") || !m.matches()) {
            return List.of(row);
        }
        List<String> rows = new ArrayList<>();
        for (String choice : m.group(2).split(",")) {
            rows.addAll(choices(m.group(1) + choice.trim() + m.group(3)));
        }
        return rows;
    }

    /** Signs that can't be seen in a file are told by \ and three figures. */
    private static String signs(String letters) {
        StringBuilder all = new StringBuilder();
        for (int i = 0; i < letters.length(); i++) {
            if (letters.charAt(i) != '\\') {
                all.append(letters.charAt(i));
            } else {
                all.append((char) Integer.parseInt(letters.substring(i + 1, i + 4)));
                i += 3;
            }
        }
        return all.toString();
    }

    // ---- rows

    private void is(String call, long got, long want) {
        due.is(where + ": " + call, got, want);
    }

    private long make(Call call) {
        made.add(call);
        is("calls on one object", made.size() <= MOST_CALLS ? 1 : 0, 1);
        return answer(x, call);
    }

    private void feed(String letters) {
        for (char c : signs(letters).toCharArray()) {
            long had = answer(x, new Call("count", 2));
            is("feed(" + (int) c + ")", make(new Call("feed", c)), had + 1);
        }
    }

    private void note(Call call, String told) {
        Set<String> answers = met.computeIfAbsent(promise, p -> new HashSet<>());
        answers.add(call.name + " " + told);
    }

    private void row(String row) {
        Matcher call = CALL.matcher(row);
        Matcher letters = LETTERS.matcher(row);
        Matcher text = TEXT.matcher(row);
        if (call.matches()) {
            Call next = new Call(call.group(2), numbers(call.group(3)));
            note(next, call.group(4));
            if (call.group(1).equals("!")) {
                staysAsItWas(next.toString(), List.of(), List.of(next));
            }
            is(next.toString(), make(next), number(call.group(4)));
        } else if (letters.matches()) {
            feed(letters.group(1));
        } else if (text.matches()) {
            textRow(text);
        } else {
            throw new IllegalArgumentException(where + ": no row: " + row);
        }
    }

    private void textRow(Matcher text) {
        String letters = text.group(1);
        int fault = text.group(3) == null ? 0 : Integer.parseInt(text.group(3));
        if (fault != 0) {
            List<Call> calls = new ArrayList<>();
            for (char c : signs(letters).toCharArray()) {
                calls.add(new Call("feed", c));
            }
            calls.add(new Call("text"));
            // fault() is told as by this text on both, and THE TAPE is empty on both.
            List<Call> same = List.of(new Call("end", 0), new Call("feed", ';'), new Call("text"));
            staysAsItWas("<" + letters + ">", same, Stream.concat(calls.stream(), same.stream()).toList());
        }
        feed(letters);
        is("text() of <" + letters + ">", make(new Call("text")), number(text.group(2)));
        is("fault() of <" + letters + ">", make(new Call("fault")), fault);
        is("count(2) behind <" + letters + ">", make(new Call("count", 2)), 0);
    }

    // ---- what is refused changes nothing

    private HotDots again(List<Call> more) {
        HotDots other = new HotDots();
        for (Call call : made) {
            answer(other, call);
        }
        for (Call call : more) {
            answer(other, call);
        }
        return other;
    }

    /** Looks at all that can be asked of objects that are made alike but for these calls. */
    private void staysAsItWas(String name, List<Call> without, List<Call> with) {
        for (int view = 0; view < 8; view++) {
            String want = seenFrom(view, again(without));
            String got = seenFrom(view, again(with));
            is(name + " changes something: " + want + " became " + got, got.equals(want) ? 1 : 0, 1);
        }
    }

    private static String seenFrom(int view, HotDots on) {
        StringBuilder all = new StringBuilder();
        if (view < 4) {
            lookAtSheet(on, view, all);
        } else if (view < 6) {
            all.append(on.back(view - 4)).append(' ');
        } else if (view == 6) {
            all.append(on.text()).append(' ').append(on.fault()).append(' ');
        }
        lookAtState(on, all);
        return all.toString();
    }

    private static void lookAtState(HotDots on, StringBuilder all) {
        for (int i = 0; i < 12; i++) {
            all.append(on.rule(i)).append(' ').append(on.line(i)).append(' ').append(on.count(i)).append(' ');
        }
        for (int h = 0; h < 3; h++) {
            for (int i = 0; i < 8; i++) {
                all.append(on.head(h, i)).append(' ').append(on.dot(h, i, 0)).append(' ');
            }
            all.append(on.kinds(h)).append(' ').append(on.powers(h)).append(' ');
        }
        all.append(on.fault()).append(' ').append(on.torn());
    }

    private static void lookAtSheet(HotDots on, int k, StringBuilder all) {
        for (int lane = 0; lane < 3; lane++) {
            all.append(on.read(k, lane, 0, 20)).append(' ').append(on.torn()).append(' ');
            for (int f = 0; f < 40; f++) {
                all.append(on.read(k, lane, f, 1)).append(' ');
            }
        }
    }

    // ---- files

    private void header(Matcher header) {
        promise = Integer.parseInt(header.group(1));
        met.computeIfAbsent(promise, p -> new HashSet<>());
        made.clear();
        x = new HotDots();
    }

    private void file(Path file) throws IOException {
        int at = 0;
        for (String line : Files.readAllLines(file)) {
            at++;
            String row = line.strip();
            where = file.getFileName() + ":" + at;
            Matcher header = HEADER.matcher(row);
            if (header.matches()) {
                header(header);
                continue;
            }
            if (row.isEmpty() || row.startsWith("#")) {
                continue;
            }
            Matcher times = TIMES.matcher(row);
            int n = times.matches() ? Integer.parseInt(times.group(2)) : 1;
            String once = times.matches() ? times.group(1) : row;
            is("times", Math.max(n, 1), n);
            for (int i = 0; i < n; i++) {
                choices(once).forEach(this::row);
            }
        }
    }

    /** Each promise has a block, and a row for each refusal that its words name. */
    private void allPromises() throws IOException {
        Matcher m = Pattern.compile("## Promise (\\d+): (.+)\n+(.+)").matcher(Files.readString(DOCUMENT));
        int seen = 0;
        while (m.find()) {
            seen++;
            int number = Integer.parseInt(m.group(1));
            where = "promise " + number;
            is("has a block", met.containsKey(number) ? 1 : 0, 1);
            for (String refusal : REFUSALS) {
                if (Pattern.compile("\\b" + refusal + "\\b").matcher(m.group(3)).find()) {
                    boolean told = met.getOrDefault(number, Set.of()).contains(m.group(2) + " " + refusal);
                    is("has a row with " + refusal, told ? 1 : 0, 1);
                }
            }
        }
        is("promises of the document", seen, PROMISES);
    }

    public static void main(String[] args) throws IOException {
        Edges edges = new Edges();
        List<Path> files;
        try (Stream<Path> found = Files.list(FILES)) {
            files = found.filter(f -> f.toString().endsWith(".txt")).sorted().toList();
        }
        for (Path file : files) {
            edges.file(file);
        }
        edges.allPromises();
        edges.due.close();
    }
}
