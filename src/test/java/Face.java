import java.lang.reflect.Constructor;
import java.lang.reflect.Field;
import java.lang.reflect.Method;
import java.lang.reflect.Modifier;
import java.util.Arrays;
import java.util.Set;
import java.util.TreeSet;
import java.util.stream.Collectors;

/** The public face: what the document tells, and nothing else that could be seen from outside. */
public final class Face {
    private static final String[] METHODS = {
        "int feed(int)", "int end(int)", "int text()", "int fault()", "int rule(int)", "int head(int,int)",
        "int dot(int,int,int)", "int line(int)", "int alter(int,int,int)", "int tell(int,int)", "int warm(int,int,int)",
        "int set(int,int)", "int add(int)", "int cut(int)", "int burn(int)", "int runs(int,int)", "int black(int,int)",
        "int ahead(int,int,int)", "int when(int)", "int power(int,int,int)", "int kind(int,int,int)",
        "int best(int,int,int)", "int swap(int,int)", "int rest(int,int)", "long luck(int,int,int,int)",
        "long mean(int,int,int)", "int see(int,int,int)", "int forget(int)", "int kinds(int)", "int powers(int)",
        "int ask(int,int)", "int drift(int,int,int)", "int keep(int)", "int back(int)", "int sheet(int,int,int)",
        "int lay(int,int,int)", "int read(int,int,int,int)", "int torn()", "int count(int)"};

    private static String told(Method m) {
        String given = Arrays.stream(m.getParameterTypes()).map(Class::getName).collect(Collectors.joining(","));
        return m.getReturnType().getName() + " " + m.getName() + "(" + given + ")";
    }

    private static Set<String> names(Class<?> of) {
        return Arrays.stream(of.getDeclaredMethods()).map(Method::getName).collect(Collectors.toCollection(TreeSet::new));
    }

    public static void main(String[] args) throws IllegalAccessException {
        Due due = new Due("Face");
        due.is("public final", HotDots.class.getModifiers(), Modifier.PUBLIC | Modifier.FINAL);
        Set<String> seen = new TreeSet<>();
        Set<String> publicNames = new TreeSet<>();
        Set<String> hiddenNames = new TreeSet<>();
        for (Method m : HotDots.class.getDeclaredMethods()) {
            if (Modifier.isPrivate(m.getModifiers())) {
                hiddenNames.add(m.getName());
                continue;
            }
            due.is("modifiers of " + m.getName(), m.getModifiers(), Modifier.PUBLIC);
            seen.add(told(m));
            publicNames.add(m.getName());
        }
        Set<String> want = new TreeSet<>(Arrays.asList(METHODS));
        due.is("methods " + seen, seen.equals(want) ? 1 : 0, 1);
        due.is("how many methods", want.size(), 39);
        int[] values = {-1, -2, -3, -4};
        String[] constants = {"BAD", "STATE", "FULL", "NONE"};
        for (Field f : HotDots.class.getDeclaredFields()) {
            int at = Arrays.asList(constants).indexOf(f.getName());
            if (at >= 0) {
                due.is(f.getName(), f.getInt(null), values[at]);
                due.is("modifiers of " + f.getName(), f.getModifiers(),
                    Modifier.PUBLIC | Modifier.STATIC | Modifier.FINAL);
            } else {
                due.is("private: " + f.getName(), Modifier.isPrivate(f.getModifiers()) ? 1 : 0, 1);
            }
        }
        Constructor<?>[] made = HotDots.class.getDeclaredConstructors();
        due.is("constructors", made.length, 1);
        due.is("its parameters", made[0].getParameterCount(), 0);
        due.is("its modifiers", made[0].getModifiers(), Modifier.PUBLIC);
        for (Class<?> inside : HotDots.class.getDeclaredClasses()) {
            int m = inside.getModifiers();
            boolean good = Modifier.isStatic(m) && !Modifier.isPublic(m) && !Modifier.isProtected(m);
            due.is("class inside " + inside.getName(), good ? 1 : 0, 1);
            hiddenNames.addAll(names(inside));
        }
        hiddenNames.retainAll(publicNames);
        due.is("hidden methods that bear the name of a public one " + hiddenNames, hiddenNames.size(), 0);
        due.close();
    }
}
