import java.util.ArrayList;
import java.util.HashMap;
import java.util.List;
import java.util.Map;
import java.util.regex.Matcher;
import java.util.regex.Pattern;

/**
 * The document told a second time, in another way than the class does it: by lists, real rows of the machine for
 * SHEETS, whole copies for each thing that is tried. It is slow and only there to be compared with.
 */
public final class Model {
    static final int BAD = -1, STATE = -2, FULL = -3, NONE = -4;
    private static final Pattern TOKEN = Pattern.compile("[a-z]+|[0-9]+|;");
    private static final List<String> KIND_NAMES = List.of("plain", "saver", "wary", "early");

    static final class HeadModel {
        int kind, power, wrong;
        int[] heat = new int[8];

        HeadModel copy() {
            HeadModel c = new HeadModel();
            c.kind = kind;
            c.power = power;
            c.wrong = wrong;
            c.heat = heat.clone();
            return c;
        }

        int gets(int d, int wanted, int next) {
            boolean w = bit(wanted, d);
            int plain = w ? power : 0;
            int saver = Math.max(0, plain - (int) Math.floor(heat[d] / 4.0));
            switch (kind) {
                case 0:
                    return plain;
                case 1:
                    return saver;
                case 2:
                    boolean both = d != 0 && d != 7 && bit(wanted, d - 1) && bit(wanted, d + 1);
                    return both ? Math.max(0, saver - 2) : saver;
                default:
                    return plain + (!w && bit(next, d) ? power / 3 : 0);
            }
        }
    }

    static final class Told {
        List<HeadModel> heads = new ArrayList<>();
        List<Integer> lines = new ArrayList<>();
        List<int[]> seen = new ArrayList<>();
        int mark = 20, cool = 3, spread = 0, row = 0;

        Told copy() {
            Told c = new Told();
            for (HeadModel h : heads) {
                c.heads.add(h.copy());
            }
            c.lines.addAll(lines);
            c.seen.addAll(seen);
            c.mark = mark;
            c.cool = cool;
            c.spread = spread;
            c.row = row;
            return c;
        }

        int wanted() {
            return lines.isEmpty() ? 0 : lines.get(row % lines.size());
        }

        int next() {
            if (lines.isEmpty()) {
                return 0;
            }
            int i = row % lines.size();
            return i == lines.size() - 1 ? lines.get(0) : lines.get(i + 1);
        }

        /** Burns a line: BLACK of each HEAD, the greatest HEAT behind them. */
        int[] burn(int wanted, int next, boolean power) {
            int[] told = new int[heads.size() + 1];
            for (int h = 0; h < heads.size(); h++) {
                HeadModel m = heads.get(h);
                int[] hot = new int[8];
                for (int d = 0; d < 8; d++) {
                    hot[d] = Math.min(99, m.heat[d] + (power ? m.gets(d, wanted, next) : 0));
                    told[heads.size()] = Math.max(told[heads.size()], hot[d]);
                    if (hot[d] >= mark) {
                        told[h] += 1 << d;
                    }
                    if (hot[d] >= mark != bit(wanted, d) && m.wrong < 9999) {
                        m.wrong++;
                    }
                }
                int[] after = hot.clone();
                for (int d = 0; d < 7; d++) {
                    int much = Math.abs(hot[d] - hot[d + 1]) * spread / 8;
                    int sign = hot[d] > hot[d + 1] ? 1 : -1;
                    after[d] -= sign * much;
                    after[d + 1] += sign * much;
                }
                for (int d = 0; d < 8; d++) {
                    m.heat[d] = Math.min(99, Math.max(0, after[d] - cool));
                }
            }
            return told;
        }

        int[] burnRow(boolean power) {
            int[] told = burn(wanted(), next(), power);
            row++;
            return told;
        }

        /** How many are WRONG in n ROWS, of one HEAD or of all (-1). */
        int wrongIn(int n, int h) {
            Told t = copy();
            int wrong = 0;
            for (int i = 0; i < n; i++) {
                int w = t.wanted();
                int[] black = t.burnRow(true);
                for (int g = 0; g < heads.size(); g++) {
                    wrong += h == -1 || h == g ? Integer.bitCount(w ^ black[g]) : 0;
                }
            }
            return wrong;
        }

        int blackIn(int h, int n) {
            Told t = copy();
            int[] black = t.burnRow(true);
            for (int i = 0; i < n; i++) {
                black = t.burnRow(true);
            }
            return black[h];
        }

        boolean asSeen() {
            for (int[] s : seen) {
                if (blackIn(s[1], s[0]) != s[2]) {
                    return false;
                }
            }
            return true;
        }
    }

    private Told now = new Told();
    private final Told[] images = new Told[2];
    private final Object[] sheets = new Object[4];
    private String tape = "";
    private int fault;
    private int torn;

    static boolean bit(int bits, int d) {
        return (bits & (1 << d)) != 0;
    }

    private static boolean in(int v, int least, int most) {
        return least <= v && v <= most;
    }

    private boolean isHead(int h) {
        return in(h, 0, now.heads.size() - 1);
    }

    public int feed(int c) {
        if (!in(c, 0, 127)) {
            return BAD;
        }
        if (tape.length() == 160) {
            return FULL;
        }
        tape += (char) c;
        return tape.length();
    }

    public int end(int n) {
        if (!in(n, 0, tape.length())) {
            return BAD;
        }
        int had = tape.length();
        tape = tape.substring(0, n);
        return had;
    }

    /** A fault as an exception: where and which. */
    private static final class Refused extends Exception {
        private static final long serialVersionUID = 1L;
        final int place, fault;

        Refused(int place, int fault) {
            this.place = place;
            this.fault = fault;
        }
    }

    private int at;
    private int begun;

    private String token() throws Refused {
        while (at < tape.length() && tape.charAt(at) == ' ') {
            at++;
        }
        begun = at;
        if (at == tape.length()) {
            return "";
        }
        Matcher m = TOKEN.matcher(tape).region(at, tape.length());
        if (!m.lookingAt() || Character.isDigit(m.group().charAt(0)) && m.group().length() > 3) {
            throw new Refused(at, 1);
        }
        at = m.end();
        return m.group();
    }

    private static boolean isNumber(String token) {
        return !token.isEmpty() && Character.isDigit(token.charAt(0));
    }

    private int number(String token, int least, int most) throws Refused {
        if (!isNumber(token)) {
            throw new Refused(begun, 2);
        }
        int v = Integer.parseInt(token);
        if (!in(v, least, most)) {
            throw new Refused(begun, 3);
        }
        return v;
    }

    private void stop(String token) throws Refused {
        if (!token.equals(";")) {
            throw new Refused(begun, 2);
        }
    }

    private int parse(Told t) throws Refused {
        at = 0;
        int told = 0;
        List<String> once = new ArrayList<>();
        for (String name = token(); !name.isEmpty(); name = token()) {
            if (KIND_NAMES.contains(name)) {
                if (t.heads.size() == 3) {
                    throw new Refused(begun, 5);
                }
                HeadModel h = new HeadModel();
                h.kind = KIND_NAMES.indexOf(name);
                h.power = number(token(), 0, 30);
                t.heads.add(h);
                stop(token());
            } else if (List.of("mark", "cool", "spread", "lines").contains(name)) {
                if (once.contains(name)) {
                    throw new Refused(begun, 4);
                }
                once.add(name);
                parseOnce(t, name);
            } else {
                throw new Refused(begun, 2);
            }
            told++;
        }
        return told;
    }

    private void parseOnce(Told t, String name) throws Refused {
        if (name.equals("mark")) {
            t.mark = number(token(), 1, 60);
        } else if (name.equals("cool")) {
            t.cool = number(token(), 0, 9);
        } else if (name.equals("spread")) {
            t.spread = number(token(), 0, 3);
        } else {
            t.lines.add(number(token(), 0, 255));
            String more = token();
            while (isNumber(more)) {
                if (t.lines.size() == 12) {
                    throw new Refused(begun, 5);
                }
                t.lines.add(number(more, 0, 255));
                more = token();
            }
            stop(more);
            return;
        }
        stop(token());
    }

    public int text() {
        Told t = new Told();
        try {
            int told = parse(t);
            now = t;
            images[0] = null;
            images[1] = null;
            fault = 0;
            return told;
        } catch (Refused r) {
            fault = r.fault;
            return -10 - r.place;
        } finally {
            tape = "";
        }
    }

    public int fault() {
        return fault;
    }

    public int rule(int what) {
        int wrong = now.heads.stream().mapToInt(h -> h.wrong).sum();
        int[] all = {now.heads.size(), now.lines.size(), now.row, now.mark, now.cool, now.spread, wrong, now.wanted()};
        return in(what, 0, 7) ? all[what] : BAD;
    }

    public int head(int h, int what) {
        if (!isHead(h) || !in(what, 0, 3)) {
            return BAD;
        }
        HeadModel m = now.heads.get(h);
        int heats = 0;
        for (int v : m.heat) {
            heats += v;
        }
        return new int[] {m.kind, m.power, m.wrong, heats}[what];
    }

    public int dot(int h, int d, int what) {
        if (!isHead(h) || !in(d, 0, 7) || !in(what, 0, 1)) {
            return BAD;
        }
        HeadModel m = now.heads.get(h);
        return what == 0 ? m.heat[d] : m.gets(d, now.wanted(), now.next());
    }

    public int line(int i) {
        return in(i, 0, now.lines.size() - 1) ? now.lines.get(i) : BAD;
    }

    public int alter(int h, int what, int v) {
        if (!isHead(h) || !in(what, 0, 1) || !in(v, 0, what == 0 ? 3 : 30)) {
            return BAD;
        }
        int was = head(h, what);
        if (what == 0) {
            now.heads.get(h).kind = v;
        } else {
            now.heads.get(h).power = v;
        }
        return was;
    }

    public int tell(int what, int v) {
        if (!in(what, 0, 2) || what == 0 && !in(v, 1, 60) || what == 1 && !in(v, 0, 9) || what == 2 && !in(v, 0, 3)) {
            return BAD;
        }
        int was = rule(3 + what);
        if (what == 0) {
            now.mark = v;
        } else if (what == 1) {
            now.cool = v;
        } else {
            now.spread = v;
        }
        return was;
    }

    public int warm(int h, int d, int v) {
        if (!isHead(h) || !in(d, 0, 7) || !in(v, 0, 99)) {
            return BAD;
        }
        int was = now.heads.get(h).heat[d];
        now.heads.get(h).heat[d] = v;
        return was;
    }

    public int set(int i, int v) {
        return in(i, 0, now.lines.size() - 1) && in(v, 0, 255) ? now.lines.set(i, v) : BAD;
    }

    public int add(int v) {
        if (!in(v, 0, 255)) {
            return BAD;
        }
        if (now.lines.size() == 12) {
            return FULL;
        }
        now.lines.add(v);
        return now.lines.size();
    }

    public int cut(int n) {
        if (!in(n, 0, now.lines.size())) {
            return BAD;
        }
        int had = now.lines.size();
        now.lines = new ArrayList<>(now.lines.subList(0, n));
        return had;
    }

    public int burn(int n) {
        if (!in(n, 0, 60)) {
            return BAD;
        }
        if (now.row + n > 9999) {
            return FULL;
        }
        int wrong = now.wrongIn(n, -1);
        for (int i = 0; i < n; i++) {
            now.burnRow(true);
        }
        return wrong;
    }

    public int runs(int n, int what) {
        if (!in(n, 0, 60) || !in(what, 0, 3)) {
            return BAD;
        }
        Told t = now.copy();
        int black = 0, hot = 0, bad = 0;
        for (int i = 0; i < n; i++) {
            int w = t.wanted();
            int[] told = t.burnRow(true);
            boolean wrong = false;
            for (int h = 0; h < t.heads.size(); h++) {
                black += Integer.bitCount(told[h]);
                wrong |= told[h] != w;
            }
            hot = Math.max(hot, told[t.heads.size()]);
            bad += wrong ? 1 : 0;
        }
        return new int[] {now.wrongIn(n, -1), black, hot, bad}[what];
    }

    public int black(int h, int n) {
        return isHead(h) && in(n, 0, 60) ? now.blackIn(h, n) : BAD;
    }

    public int ahead(int h, int d, int n) {
        if (!isHead(h) || !in(d, 0, 7) || !in(n, 0, 60)) {
            return BAD;
        }
        Told t = now.copy();
        for (int i = 0; i < n; i++) {
            t.burnRow(true);
        }
        return t.heads.get(h).heat[d];
    }

    public int when(int h) {
        if (!isHead(h)) {
            return BAD;
        }
        for (int n = 0; n <= 60; n++) {
            if (now.wrongIn(n + 1, h) > 0) {
                return n;
            }
        }
        return NONE;
    }

    /** Of numbers with how many are wrong by each: the first of the fewest; that few. Fewer than so many; NONE. */
    private static int fewest(List<int[]> tried, int than, int what) {
        int least = than;
        for (int[] t : tried) {
            least = Math.min(least, t[1]);
        }
        for (int[] t : tried) {
            if (t[1] == least && least < than) {
                return t[what];
            }
        }
        return NONE;
    }

    public int power(int h, int n, int what) {
        if (!isHead(h) || !in(n, 0, 60) || !in(what, 0, 1)) {
            return BAD;
        }
        List<int[]> tried = new ArrayList<>();
        for (int p = 0; p <= 30; p++) {
            Told t = now.copy();
            t.heads.get(h).power = p;
            tried.add(new int[] {p, t.wrongIn(n, h)});
        }
        return fewest(tried, Integer.MAX_VALUE, what);
    }

    public int kind(int h, int n, int what) {
        if (!isHead(h) || !in(n, 0, 60) || !in(what, 0, 1)) {
            return BAD;
        }
        List<int[]> tried = new ArrayList<>();
        for (int k = 0; k <= 3; k++) {
            Told t = now.copy();
            t.heads.get(h).kind = k;
            tried.add(new int[] {k, t.wrongIn(n, h)});
        }
        return fewest(tried, Integer.MAX_VALUE, what);
    }

    public int best(int which, int n, int what) {
        if (!in(which, 0, 1) || !in(n, 0, 60) || !in(what, 0, 1)) {
            return BAD;
        }
        List<int[]> tried = new ArrayList<>();
        for (int v = which == 0 ? 1 : 0; v <= (which == 0 ? 60 : 9); v++) {
            Told t = now.copy();
            t.mark = which == 0 ? v : t.mark;
            t.cool = which == 1 ? v : t.cool;
            tried.add(new int[] {v, t.wrongIn(n, -1)});
        }
        return fewest(tried, Integer.MAX_VALUE, what);
    }

    public int swap(int n, int what) {
        if (!in(n, 0, 60) || !in(what, 0, 1)) {
            return BAD;
        }
        List<int[]> tried = new ArrayList<>();
        for (int i = 0; i < now.lines.size(); i++) {
            for (int j = i + 1; j < now.lines.size(); j++) {
                Told t = now.copy();
                t.lines.set(i, now.lines.get(j));
                t.lines.set(j, now.lines.get(i));
                tried.add(new int[] {100 * i + j, t.wrongIn(n, -1)});
            }
        }
        return fewest(tried, now.wrongIn(n, -1), what);
    }

    public int rest(int n, int what) {
        if (!in(n, 0, 60) || !in(what, 0, 1)) {
            return BAD;
        }
        List<int[]> tried = new ArrayList<>();
        for (int i = 0; i < now.lines.size(); i++) {
            Told t = now.copy();
            int wrong = 0;
            for (int r = 0; r < n; r++) {
                wrong += t.wrongIn(1, -1);
                t.burnRow(true);
                if ((t.row - 1) % t.lines.size() == i) {
                    t.heads.forEach(h -> h.heat = new int[8]);
                }
            }
            tried.add(new int[] {i, wrong});
        }
        return fewest(tried, now.wrongIn(n, -1), what);
    }

    private static long part(long number, long by, int what) {
        for (int p : new int[] {2, 5}) {
            while (number % p == 0 && by % p == 0) {
                number /= p;
                by /= p;
            }
        }
        // Nothing but 2 and 5 divides a power of ten; what is nothing loses all of them.
        return what == 0 ? number : by;
    }

    /** Sums over both ways that each ROW may go: the weight, out of 10 to the n, times what is asked for. */
    private static long over(Told t, int v, int n, int h, long weight, int wrong) {
        if (n == 0) {
            return h == -1 ? weight * wrong : wrong == 0 ? weight : 0;
        }
        long sum = 0;
        for (int on = 0; on < 2; on++) {
            Told u = t.copy();
            int w = u.wanted();
            int[] black = u.burnRow(on == 1);
            int more = 0;
            for (int g = 0; g < u.heads.size(); g++) {
                more += h == -1 || h == g ? Integer.bitCount(black[g] ^ w) : 0;
            }
            sum += over(u, v, n - 1, h, weight * (on == 1 ? 10 - v : v), wrong + more);
        }
        return sum;
    }

    public long luck(int v, int h, int n, int what) {
        if (!in(v, 0, 10) || !isHead(h) || !in(n, 0, 6) || !in(what, 0, 1)) {
            return BAD;
        }
        long sum = over(now, v, n, h, 1, 0);
        return sum == 0 ? what : part(sum, Math.round(Math.pow(10, n)), what);
    }

    public long mean(int v, int n, int what) {
        if (!in(v, 0, 10) || !in(n, 0, 6) || !in(what, 0, 1)) {
            return BAD;
        }
        long sum = over(now, v, n, -1, 1, 0);
        return sum == 0 ? what : part(sum, Math.round(Math.pow(10, n)), what);
    }

    public int see(int n, int h, int b) {
        if (!in(n, 0, 40) || !isHead(h) || !in(b, 0, 255)) {
            return BAD;
        }
        if (now.seen.size() == 6) {
            return FULL;
        }
        now.seen.add(new int[] {n, h, b});
        return now.seen.size();
    }

    public int forget(int n) {
        if (!in(n, 0, now.seen.size())) {
            return BAD;
        }
        int had = now.seen.size();
        now.seen = new ArrayList<>(now.seen.subList(0, n));
        return had;
    }

    public int kinds(int h) {
        if (!isHead(h)) {
            return BAD;
        }
        int bits = 0;
        for (int k = 0; k <= 3; k++) {
            Told t = now.copy();
            t.heads.get(h).kind = k;
            bits += t.asSeen() ? 1 << k : 0;
        }
        return bits;
    }

    public int powers(int h) {
        if (!isHead(h)) {
            return BAD;
        }
        int bits = 0;
        for (int p = 0; p <= 30; p++) {
            Told t = now.copy();
            t.heads.get(h).power = p;
            bits += t.asSeen() ? 1 << p : 0;
        }
        return bits;
    }

    public int ask(int h, int what) {
        if (!isHead(h) || !in(what, 0, 1)) {
            return BAD;
        }
        int left = powers(h);
        List<Map<Integer, Integer>> alike = new ArrayList<>();
        for (int n = 0; n <= 40; n++) {
            alike.add(new HashMap<>());
        }
        for (int p = 0; p <= 30; p++) {
            if (bit(left, p)) {
                Told t = now.copy();
                t.heads.get(h).power = p;
                for (int n = 0; n <= 40; n++) {
                    alike.get(n).merge(t.burnRow(true)[h], 1, Integer::sum);
                }
            }
        }
        List<int[]> tried = new ArrayList<>();
        for (int n = 0; n <= 40; n++) {
            tried.add(new int[] {n, alike.get(n).values().stream().mapToInt(c -> c).max().orElse(0)});
        }
        return fewest(tried, Integer.bitCount(left), what);
    }

    public int drift(int seed, int n, int what) {
        if (!in(n, 1, 60) || !in(what, 0, 1)) {
            return BAD;
        }
        if (now.heads.isEmpty()) {
            return STATE;
        }
        Told t = now.copy();
        long s = seed & 0xFFFFFFFFL;
        int wrong = 0;
        for (int i = 0; i < n; i++) {
            s = (s * 1103515245L + 12345L) % (1L << 32);
            int w = (int) (s / 65536 % 32768 / 4 % 256);
            int[] black = t.burn(w, 0, true);
            for (int h = 0; h < t.heads.size(); h++) {
                wrong += Integer.bitCount(black[h] ^ w);
            }
        }
        int heats = t.heads.stream().flatMapToInt(h -> java.util.Arrays.stream(h.heat)).sum();
        return what == 0 ? wrong : heats;
    }

    public int keep(int k) {
        if (!in(k, 0, 1)) {
            return BAD;
        }
        int was = images[k] == null ? 0 : 1;
        images[k] = now.copy();
        return was;
    }

    public int back(int k) {
        if (!in(k, 0, 1)) {
            return BAD;
        }
        if (images[k] == null) {
            return STATE;
        }
        now = images[k].copy();
        return now.row;
    }

    /** What the machine finds, by the exception it throws. */
    private static int faultOf(RuntimeException e) {
        return e instanceof NullPointerException ? 1 : e instanceof IndexOutOfBoundsException ? 2
            : e instanceof ClassCastException ? 3 : e instanceof NegativeArraySizeException ? 4 : 99;
    }

    public int sheet(int k, int lane, int n) {
        if (!in(k, 0, 3) || !in(lane, 0, 2) || n > 40) {
            return BAD;
        }
        try {
            sheets[k] = lane == 0 ? new byte[n] : lane == 1 ? new short[n] : new int[n];
            return 1;
        } catch (RuntimeException e) {
            return -10 - faultOf(e);
        }
    }

    public int lay(int k, int i, int v) {
        if (!in(k, 0, 3)) {
            return BAD;
        }
        try {
            if (sheets[k] instanceof byte[] b) {
                b[i] = (byte) v;
            } else if (sheets[k] instanceof short[] s) {
                s[i] = (short) v;
            } else {
                ((int[]) sheets[k])[i] = v;
            }
            return 1;
        } catch (RuntimeException e) {
            return -10 - faultOf(e);
        }
    }

    private static int cell(Object row, int lane, int i) {
        return lane == 0 ? ((byte[]) row)[i] : lane == 1 ? ((short[]) row)[i] : ((int[]) row)[i];
    }

    public int read(int k, int lane, int f, int n) {
        if (!in(k, 0, 3) || !in(lane, 0, 2) || !in(n, 0, 20)) {
            return BAD;
        }
        List<Integer> before = new ArrayList<>(now.lines);
        int came = 0;
        int found = 0;
        try {
            for (int i = 0; i < n; i++) {
                int which = cell(sheets[k], lane, f + 2 * i);
                int what = cell(sheets[k], lane, f + 2 * i + 1);
                if (set(which, what) == BAD) {
                    now.lines = before;
                    return -20 - i;
                }
                came++;
            }
        } catch (RuntimeException e) {
            found = faultOf(e);
        }
        torn = found;
        return came;
    }

    public int torn() {
        return torn;
    }

    public int count(int what) {
        switch (what) {
            case 0:
                return now.seen.size();
            case 1:
                return (images[0] != null ? 1 : 0) + (images[1] != null ? 1 : 0);
            case 2:
                return tape.length();
            case 3:
                return sheets[0] == null ? NONE : java.lang.reflect.Array.getLength(sheets[0]);
            case 4:
                return now.heads.stream().mapToInt(h -> h.power).sum();
            case 5:
                return now.lines.stream().mapToInt(Integer::bitCount).sum();
            default:
                return BAD;
        }
    }
}
