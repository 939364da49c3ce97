import java.lang.reflect.InvocationTargetException;
import java.lang.reflect.Method;
import java.util.ArrayList;
import java.util.Arrays;
import java.util.HashMap;
import java.util.List;
import java.util.Map;
import java.util.Random;

/** Runs of calls by a seed on the class and on the model side by side: each answer must be the same. */
public final class AgainstModel {
    private static final int RUNS = 400, CALLS = 512;
    /** Each call, the bounds of each number that it takes, how often it comes. */
    private static final String[] CALLS_TOLD = {
        "feed 0,127 4", "end 0,12 2", "text 3", "fault 2", "rule 0,7 6", "head 0,2 0,3 6", "dot 0,2 0,7 0,1 6",
        "line 0,11 3", "alter 0,2 0,1 0,3 4", "alter 0,2 0,1 0,30 4", "tell 0,2 0,3 3", "tell 0,2 1,60 3",
        "warm 0,2 0,7 0,99 8", "set 0,11 0,255 5", "add 0,255 6", "cut 0,12 1", "burn 0,3 6", "burn 0,60 2",
        "runs 0,60 0,3 8", "black 0,2 0,60 4", "ahead 0,2 0,7 0,60 4", "when 0,2 4", "power 0,2 0,60 0,1 4",
        "kind 0,2 0,60 0,1 4", "best 0,1 0,60 0,1 4", "swap 0,60 0,1 4", "rest 0,60 0,1 4",
        "luck 0,10 0,2 0,6 0,1 4", "luck 0,4 0,2 0,2 0,1 4", "mean 0,10 0,6 0,1 4", "see 0,40 0,2 0,255 1",
        "forget 0,6 1", "forget 0,0 2", "kinds 0,2 6", "powers 0,2 6", "ask 0,2 0,1 6",
        "drift 0,99999 1,60 0,1 4", "keep 0,1 2", "back 0,1 2", "sheet 0,3 0,2 0,40 2", "sheet 0,3 0,2 0,6 2",
        "lay 0,3 0,40 0,11 6", "lay 0,3 0,6 0,255 4", "lay 0,3 0,40 -70000,70000 1", "read 0,3 0,2 0,6 0,3 8",
        "read 0,3 0,2 0,40 0,20 3", "torn 4", "count 0,5 6"};
    private static final int[] WILD = {-1, 0, 1, -2, 41, 61, 100, 255, 256, Integer.MAX_VALUE, Integer.MIN_VALUE};
    private static final Map<String, Method> OF_CLASS = methodsOf(HotDots.class);
    private static final Map<String, Method> OF_MODEL = methodsOf(Model.class);

    private final Random random;
    private final HotDots x = new HotDots();
    private final Model model = new Model();
    private final List<String> made = new ArrayList<>();

    private AgainstModel(long seed) {
        random = new Random(seed);
    }

    private static Map<String, Method> methodsOf(Class<?> of) {
        Map<String, Method> methods = new HashMap<>();
        for (Method m : of.getDeclaredMethods()) {
            if (java.lang.reflect.Modifier.isPublic(m.getModifiers())) {
                methods.put(m.getName(), m);
            }
        }
        return methods;
    }

    private static long answer(Method m, Object on, Object[] given) throws IllegalAccessException {
        try {
            return ((Number) m.invoke(on, given)).longValue();
        } catch (InvocationTargetException e) {
            System.out.println(m.getName() + Arrays.toString(given) + " threw " + e.getCause());
            return Long.MIN_VALUE;
        }
    }

    /** Makes the call on both: whether they answer the same. */
    private boolean same(String name, int... given) throws IllegalAccessException {
        Object[] boxed = Arrays.stream(given).boxed().toArray();
        made.add(name + Arrays.toString(given));
        long want = answer(OF_MODEL.get(name), model, boxed);
        long got = answer(OF_CLASS.get(name), x, boxed);
        if (got == want) {
            return true;
        }
        System.out.println(made.get(made.size() - 1) + " answered " + got + ", the model " + want + ", behind " + made);
        return false;
    }

    private int any(int least, int most) {
        return least + random.nextInt(most - least + 1);
    }

    private int number(String bounds) {
        int comma = bounds.indexOf(',', 1);
        int least = Integer.parseInt(bounds.substring(0, comma));
        int most = Integer.parseInt(bounds.substring(comma + 1));
        switch (random.nextInt(40)) {
            case 0:
                return WILD[random.nextInt(WILD.length)];
            case 1:
                return least - 1;
            case 2:
                return most + 1;
            case 3:
            case 4:
                return most;
            case 5:
            case 6:
                return least;
            default:
                return any(least, most);
        }
    }

    private String wordy() {
        String[] names = {"plain", "saver", "wary", "early", "mark", "cool", "spread", "lines"};
        StringBuilder text = new StringBuilder();
        List<Integer> order = new ArrayList<>();
        for (int i = any(1, 3); i > 0; i--) {
            order.add(random.nextInt(4));
        }
        for (int i = 4; i < 8; i++) {
            if (random.nextInt(4) > 0) {
                order.add(random.nextInt(order.size() + 1), i);
            }
        }
        if (random.nextInt(6) == 0) {
            order.add(random.nextInt(order.size() + 1), random.nextInt(8));
        }
        int[] most = {30, 30, 30, 30, 60, 9, 3, 255};
        for (int name : order) {
            text.append(names[name]);
            int numbers = name == 7 ? any(1, random.nextInt(8) == 0 ? 13 : 6) : 1;
            for (int i = 0; i < numbers; i++) {
                text.append(random.nextInt(5) == 0 && i == 0 ? "" : " ");
                text.append(any(name == 4 ? 1 : 0, most[name] + (random.nextInt(30) == 0 ? 1 : 0)));
            }
            text.append(random.nextInt(3) == 0 ? " ;" : ";").append(random.nextInt(3) == 0 ? " " : "");
        }
        String odd = "; 0123azP-\t\0pl";
        for (int i = random.nextInt(3) == 0 ? any(1, 2) : 0; i > 0; i--) {
            int where = random.nextInt(text.length());
            char c = odd.charAt(random.nextInt(odd.length()));
            switch (random.nextInt(4)) {
                case 0:
                    text.setCharAt(where, c);
                    break;
                case 1:
                    text.deleteCharAt(where);
                    break;
                case 2:
                    text.setLength(Math.max(1, where));
                    break;
                default:
                    text.insert(where, c);
                    break;
            }
        }
        return text.toString();
    }

    private boolean tellText() throws IllegalAccessException {
        boolean good = same("end", 0);
        String text = wordy();
        for (int i = 0; i < text.length() && i < 161; i++) {
            good &= same("feed", text.charAt(i));
        }
        return good && same("text") && same("fault");
    }

    /** What is SEEN is now and then what the class itself tells, so that some KINDS and POWERS are left. */
    private boolean seeTruth() throws IllegalAccessException {
        int h = any(0, 2);
        int n = any(0, random.nextBoolean() ? 3 : 40);
        int black = x.black(h, n);
        return same("black", h, n) && same("see", n, h, black == -1 ? 0 : black) && same("count", 0);
    }

    private boolean anyCall() throws IllegalAccessException {
        if (random.nextInt(25) == 0) {
            return seeTruth();
        }
        String[] parts = CALLS_TOLD[random.nextInt(CALLS_TOLD.length)].split(" ");
        if (random.nextInt(8) >= Integer.parseInt(parts[parts.length - 1])) {
            return true;
        }
        int[] given = new int[parts.length - 2];
        for (int i = 0; i < given.length; i++) {
            given[i] = number(parts[i + 1]);
        }
        return same(parts[0], given);
    }

    private boolean allIsTheSame() throws IllegalAccessException {
        boolean good = true;
        for (int what = 0; what < 8; what++) {
            good &= same("rule", what) & same("count", what);
        }
        for (int h = 0; h < 3; h++) {
            for (int d = 0; d < 8; d++) {
                good &= same("dot", h, d, 0) & same("dot", h, d, 1) & same("head", h, d);
            }
        }
        for (int i = 0; i < 12; i++) {
            good &= same("line", i);
        }
        return good & same("torn") & same("fault");
    }

    private boolean run() throws IllegalAccessException {
        boolean good = random.nextInt(10) == 0 || tellText();
        while (good && made.size() < CALLS - 120) {
            good = random.nextInt(120) == 0 ? tellText() : anyCall();
        }
        return good && allIsTheSame();
    }

    public static void main(String[] args) throws IllegalAccessException {
        int wrong = 0;
        for (int seed = 1; seed <= RUNS && wrong < 3; seed++) {
            AgainstModel run = new AgainstModel(seed);
            if (!run.run()) {
                wrong++;
                System.out.println("in the run by seed " + seed);
            }
        }
        System.out.println(wrong == 0 ? "all answers are the model's" : "there are answers that are not the model's");
        if (wrong != 0) {
            System.exit(1);
        }
    }
}
