import java.util.Arrays;

/** Heads of eight dots each that burn the same lines by heat; the document DOC.md tells what each call answers. */
public final class HotDots {
    public static final int BAD = -1, STATE = -2, FULL = -3, NONE = -4;

    private static final int MOST_HEADS = 3, DOTS = 8, MOST_LINES = 12, MOST_SEEN = 6;
    private static final int MOST_KIND = 3, MOST_POWER = 30, MOST_HEAT = 99, MOST_WRONG = 9999, ALL_DOTS = 255;
    /** Where MARK, COOL, SPREAD stand among the rules, and in which bounds each of them stays. */
    private static final int MARK = 0, COOL = 1, SPREAD = 2, RULES = 3;
    private static final int[] LEAST_RULE = {1, 0, 0};
    private static final int[] MOST_RULE = {60, 9, 3};
    private static final int[] FIRST_RULE = {20, 3, 0};
    private static final int LEAST_MARK = 1, MOST_MARK = 60, MOST_COOL = 9;
    private static final int SAVER = 1, WARY = 2, EARLY = 3;
    private static final int MOST_ROWS = 60, ROW_END = 10000, LOOKS = 41, ODDS_ROWS = 6;
    private static final int IMAGES = 2, SHEETS = 4, LANES = 3, MOST_CELLS = 40, MOST_READ = 20;
    private static final int NULL_FAULT = 1, INDEX_FAULT = 2, CAST_FAULT = 3, SIZE_FAULT = 4;
    private static final int FAULT_BASE = -10, REFUSED_BASE = -20;
    /** More than any number of rows can have wrong. */
    private static final int UNBOUNDED = 1000000;

    private final Tape tape = new Tape();
    private final Printer now = new Printer();
    private final Printer trial = new Printer();
    private final Head lone = new Head();
    private final Printer[] images = new Printer[IMAGES];
    private final boolean[] kept = new boolean[IMAGES];
    private final Sheet[] sheets = new Sheet[SHEETS];
    private final int[] markSteps = new int[MOST_MARK + 2];
    private final int[] looks = new int[(MOST_POWER + 1) * LOOKS];
    private final int[] alike = new int[ALL_DOTS + 1];
    private int readFault;

    public HotDots() {
        for (int k = 0; k < IMAGES; k++) {
            images[k] = new Printer();
        }
        for (int k = 0; k < SHEETS; k++) {
            sheets[k] = new Sheet();
        }
    }

    // ---- the text

    public int feed(int c) {
        if (outside(c, 0, 127)) {
            return BAD;
        }
        if (tape.size >= Tape.ROOM) {
            return FULL;
        }
        tape.bytes[tape.size] = (byte) c;
        tape.size++;
        return tape.size;
    }

    public int end(int n) {
        if (outside(n, 0, tape.size)) {
            return BAD;
        }
        int had = tape.size;
        tape.size = n;
        return had;
    }

    public int text() {
        int told = tape.readInto(trial);
        tape.size = 0;
        if (tape.fault != 0) {
            return FAULT_BASE - tape.faultPlace;
        }
        now.copyFrom(trial);
        for (int k = 0; k < IMAGES; k++) {
            kept[k] = false;
        }
        return told;
    }

    public int fault() {
        return tape.fault;
    }

    public int rule(int what) {
        switch (what) {
            case 0: return now.headCount;
            case 1: return now.lineCount;
            case 2: return now.row;
            case 3: return now.rules[MARK];
            case 4: return now.rules[COOL];
            case 5: return now.rules[SPREAD];
            case 6: return now.wrongOfAll();
            case 7: return now.wantedIn(0);
            default: return BAD;
        }
    }

    public int head(int h, int what) {
        if (noHead(h)) {
            return BAD;
        }
        Head of = now.heads[h];
        switch (what) {
            case 0: return of.kind;
            case 1: return of.power;
            case 2: return of.wrong;
            case 3: return of.heatSum();
            default: return BAD;
        }
    }

    public int dot(int h, int d, int what) {
        if (noHead(h) || noDot(d) || outside(what, 0, 1)) {
            return BAD;
        }
        Head of = now.heads[h];
        return what == 0 ? of.heat[d] : of.gain(d, now.wantedIn(0), now.wantedIn(1));
    }

    public int line(int i) {
        return noLine(i) ? BAD : now.lines[i];
    }

    // ---- what is changed

    public int alter(int h, int what, int v) {
        if (noHead(h) || outside(what, 0, 1) || outside(v, 0, mostOf(what))) {
            return BAD;
        }
        Head of = now.heads[h];
        int was = what == 0 ? of.kind : of.power;
        of.drive(what, v);
        return was;
    }

    public int tell(int what, int v) {
        if (outside(what, 0, RULES - 1) || outside(v, LEAST_RULE[what], MOST_RULE[what])) {
            return BAD;
        }
        int was = now.rules[what];
        now.rules[what] = v;
        return was;
    }

    public int warm(int h, int d, int v) {
        if (noHead(h) || noDot(d) || outside(v, 0, MOST_HEAT)) {
            return BAD;
        }
        int was = now.heads[h].heat[d];
        now.heads[h].heat[d] = v;
        return was;
    }

    public int set(int i, int v) {
        if (lineRefused(i, v)) {
            return BAD;
        }
        int was = now.lines[i];
        now.lines[i] = v;
        return was;
    }

    public int add(int v) {
        if (outside(v, 0, ALL_DOTS)) {
            return BAD;
        }
        if (now.lineCount >= MOST_LINES) {
            return FULL;
        }
        now.lines[now.lineCount] = v;
        now.lineCount++;
        return now.lineCount;
    }

    public int cut(int n) {
        if (outside(n, 0, now.lineCount)) {
            return BAD;
        }
        int had = now.lineCount;
        now.lineCount = n;
        return had;
    }

    // ---- rows

    public int burn(int n) {
        if (badRows(n)) {
            return BAD;
        }
        if (now.row + n >= ROW_END) {
            return FULL;
        }
        int wrong = 0;
        for (int i = 0; i < n; i++) {
            wrong += now.burnRow(true);
        }
        return wrong;
    }

    public int runs(int n, int what) {
        if (badRows(n) || outside(what, 0, 3)) {
            return BAD;
        }
        trial.copyFrom(now);
        int wrong = 0, black = 0, hottest = 0, wrongRows = 0;
        for (int i = 0; i < n; i++) {
            int wrongHere = trial.burnRow(true);
            wrong += wrongHere;
            wrongRows += wrongHere > 0 ? 1 : 0;
            black += trial.latestBlack;
            hottest = Math.max(hottest, trial.hottest());
        }
        switch (what) {
            case 0: return wrong;
            case 1: return black;
            case 2: return hottest;
            default: return wrongRows;
        }
    }

    public int black(int h, int n) {
        if (noHead(h) || badRows(n)) {
            return BAD;
        }
        lone.copyFrom(now.heads[h]);
        int bits = 0;
        for (int i = 0; i <= n; i++) {
            bits = burnLone(i, true);
        }
        return bits;
    }

    public int ahead(int h, int d, int n) {
        if (noHead(h) || noDot(d) || badRows(n)) {
            return BAD;
        }
        lone.copyFrom(now.heads[h]);
        for (int i = 0; i < n; i++) {
            burnLone(i, true);
        }
        return lone.heat[d];
    }

    public int when(int h) {
        if (noHead(h)) {
            return BAD;
        }
        lone.copyFrom(now.heads[h]);
        for (int i = 0; i <= MOST_ROWS; i++) {
            if (burnLone(i, true) != now.wantedIn(i)) {
                return i;
            }
        }
        return NONE;
    }

    // ---- what is best

    public int power(int h, int n, int what) {
        return bestDrive(h, 1, n, what);
    }

    public int kind(int h, int n, int what) {
        return bestDrive(h, 0, n, what);
    }

    public int best(int which, int n, int what) {
        if (outside(which, 0, 1) || badRows(n) || outside(what, 0, 1)) {
            return BAD;
        }
        return which == 0 ? bestMark(n, what) : bestCool(n, what);
    }

    public int swap(int n, int what) {
        if (badRows(n) || outside(what, 0, 1)) {
            return BAD;
        }
        trial.copyFrom(now);
        int fewest = wrongInTrial(n, UNBOUNDED);
        int chosen = NONE;
        for (int i = 0; i < now.lineCount; i++) {
            for (int j = i + 1; j < now.lineCount; j++) {
                int wrong = wrongIfSwapped(i, j, n, fewest);
                if (wrong < fewest) {
                    fewest = wrong;
                    chosen = 100 * i + j;
                }
            }
        }
        return what == 0 || chosen == NONE ? chosen : fewest;
    }

    public int rest(int n, int what) {
        if (badRows(n) || outside(what, 0, 1)) {
            return BAD;
        }
        trial.copyFrom(now);
        int fewest = wrongInTrial(n, UNBOUNDED);
        int chosen = NONE;
        for (int i = 0; i < now.lineCount; i++) {
            int wrong = wrongIfResting(i, n, fewest);
            if (wrong < fewest) {
                fewest = wrong;
                chosen = i;
            }
        }
        return what == 0 || chosen == NONE ? chosen : fewest;
    }

    // ---- rows without power

    public long luck(int v, int h, int n, int what) {
        if (badOdds(v, n, what) || noHead(h)) {
            return BAD;
        }
        long all = raised(10, n);
        long lucky = 0;
        for (int without = 0; without < 1 << n; without++) {
            long weight = weightOf(without, v, n);
            if (weight != 0 && loneIsRight(h, n, without)) {
                lucky += weight;
            }
        }
        return part(lucky, all, what);
    }

    public long mean(int v, int n, int what) {
        if (badOdds(v, n, what)) {
            return BAD;
        }
        long all = raised(10, n);
        long sum = 0;
        for (int without = 0; without < 1 << n; without++) {
            long weight = weightOf(without, v, n);
            if (weight != 0) {
                sum += weight * wrongWithout(n, without);
            }
        }
        return part(sum, all, what);
    }

    // ---- from what was burnt

    public int see(int n, int h, int b) {
        if (outside(n, 0, LOOKS - 1) || noHead(h) || outside(b, 0, ALL_DOTS)) {
            return BAD;
        }
        if (now.seen.count >= MOST_SEEN) {
            return FULL;
        }
        now.seen.append(n, h, b);
        return now.seen.count;
    }

    public int forget(int n) {
        if (outside(n, 0, now.seen.count)) {
            return BAD;
        }
        int had = now.seen.count;
        now.seen.count = n;
        return had;
    }

    public int kinds(int h) {
        return noHead(h) ? BAD : asSeenBy(h, 0);
    }

    public int powers(int h) {
        return noHead(h) ? BAD : asSeenBy(h, 1);
    }

    public int ask(int h, int what) {
        if (noHead(h) || outside(what, 0, 1)) {
            return BAD;
        }
        int fitting = asSeenBy(h, 1);
        int fewest = Integer.bitCount(fitting);
        int chosen = NONE;
        if (fewest > 1) {
            for (int n = 0; n < LOOKS; n++) {
                int left = leftAtWorst(fitting, n);
                if (left < fewest) {
                    fewest = left;
                    chosen = n;
                }
            }
        }
        return what == 0 || chosen == NONE ? chosen : fewest;
    }

    // ---- by a seed

    public int drift(int seed, int n, int what) {
        if (outside(n, 1, MOST_ROWS) || outside(what, 0, 1)) {
            return BAD;
        }
        if (now.headCount == 0) {
            return STATE;
        }
        trial.copyFrom(now);
        int wrong = 0;
        int state = seed;
        for (int i = 0; i < n; i++) {
            state = state * 1103515245 + 12345;
            int got = (state >>> 16) & 32767;
            wrong += trial.burnLine(got / 4 % 256, 0, true);
        }
        return what == 0 ? wrong : trial.heatOfAll();
    }

    // ---- images, sheets

    public int keep(int k) {
        if (outside(k, 0, IMAGES - 1)) {
            return BAD;
        }
        int was = kept[k] ? 1 : 0;
        images[k].copyFrom(now);
        kept[k] = true;
        return was;
    }

    public int back(int k) {
        if (outside(k, 0, IMAGES - 1)) {
            return BAD;
        }
        if (!kept[k]) {
            return STATE;
        }
        now.copyFrom(images[k]);
        return now.row;
    }

    public int sheet(int k, int lane, int n) {
        if (noSheet(k) || outside(lane, 0, LANES - 1) || n > MOST_CELLS) {
            return BAD;
        }
        if (n < 0) {
            return FAULT_BASE - SIZE_FAULT;
        }
        sheets[k].renew(lane, n);
        return 1;
    }

    public int lay(int k, int i, int v) {
        if (noSheet(k)) {
            return BAD;
        }
        Sheet on = sheets[k];
        int found = on.faultOf(on.lane, i);
        if (found != 0) {
            return FAULT_BASE - found;
        }
        on.put(i, v);
        return 1;
    }

    public int read(int k, int lane, int f, int n) {
        if (noSheet(k) || outside(lane, 0, LANES - 1) || outside(n, 0, MOST_READ)) {
            return BAD;
        }
        Sheet from = sheets[k];
        int found = 0;
        int whole = 0;
        // Nothing is changed before all that can be read is looked at: one refusal undoes them all.
        for (int i = 0; i < n && found == 0; i++) {
            found = from.pairFault(lane, f, i);
            if (found == 0) {
                if (lineRefused(from.cells[f + 2 * i], from.cells[f + 2 * i + 1])) {
                    return REFUSED_BASE - i;
                }
                whole++;
            }
        }
        for (int i = 0; i < whole; i++) {
            now.lines[from.cells[f + 2 * i]] = from.cells[f + 2 * i + 1];
        }
        readFault = found;
        return whole;
    }

    public int torn() {
        return readFault;
    }

    public int count(int what) {
        switch (what) {
            case 0: return now.seen.count;
            case 1: return (kept[0] ? 1 : 0) + (kept[1] ? 1 : 0);
            case 2: return tape.size;
            case 3: return sheets[0].there ? sheets[0].size : NONE;
            case 4: return now.powerOfAll();
            case 5: return now.wantedOfAll();
            default: return BAD;
        }
    }

    // ---- what is refused

    private static boolean outside(int v, int least, int most) {
        return v < least || v > most;
    }

    private boolean noHead(int h) {
        return outside(h, 0, now.headCount - 1);
    }

    private static boolean noDot(int d) {
        return outside(d, 0, DOTS - 1);
    }

    private boolean noLine(int i) {
        return outside(i, 0, now.lineCount - 1);
    }

    private static boolean noSheet(int k) {
        return outside(k, 0, SHEETS - 1);
    }

    private boolean lineRefused(int i, int v) {
        return noLine(i) || outside(v, 0, ALL_DOTS);
    }

    private static boolean badRows(int n) {
        return outside(n, 0, MOST_ROWS);
    }

    private static boolean badOdds(int v, int n, int what) {
        return outside(v, 0, 10) || outside(n, 0, ODDS_ROWS) || outside(what, 0, 1);
    }

    // ---- one HEAD by itself, BY ROWS

    /** The greatest KIND (0), POWER (1). */
    private static int mostOf(int what) {
        return what == 0 ? MOST_KIND : MOST_POWER;
    }

    private int burnLone(int n, boolean powered) {
        return lone.burnLine(now, now.wantedIn(n), now.wantedIn(n + 1), powered);
    }

    private int wrongOfLone(int n, int limit) {
        int wrong = 0;
        for (int i = 0; i < n && wrong < limit; i++) {
            wrong += Integer.bitCount(burnLone(i, true) ^ now.wantedIn(i));
        }
        return wrong;
    }

    private int bestDrive(int h, int drive, int n, int what) {
        if (noHead(h) || badRows(n) || outside(what, 0, 1)) {
            return BAD;
        }
        int fewest = UNBOUNDED;
        int chosen = 0;
        for (int v = 0; v <= mostOf(drive); v++) {
            lone.copyFrom(now.heads[h]);
            lone.drive(drive, v);
            int wrong = wrongOfLone(n, fewest);
            if (wrong < fewest) {
                fewest = wrong;
                chosen = v;
            }
        }
        return what == 0 ? chosen : fewest;
    }

    // ---- all HEADS, BY ROWS

    private int wrongInTrial(int n, int limit) {
        int wrong = 0;
        for (int i = 0; i < n && wrong < limit; i++) {
            wrong += trial.burnRow(true);
        }
        return wrong;
    }

    /** HEAT does not hang on MARK, so one run tells how many are WRONG by each MARK. */
    private int bestMark(int n, int what) {
        Arrays.fill(markSteps, 0);
        trial.copyFrom(now);
        for (int i = 0; i < n; i++) {
            trial.burnRow(true);
            for (int h = 0; h < trial.headCount; h++) {
                stepMarks(trial.heads[h], now.wantedIn(i));
            }
        }
        int fewest = UNBOUNDED, chosen = 0, wrong = 0;
        for (int mark = LEAST_MARK; mark <= MOST_MARK; mark++) {
            wrong += markSteps[mark];
            if (wrong < fewest) {
                fewest = wrong;
                chosen = mark;
            }
        }
        return what == 0 ? chosen : fewest;
    }

    /** WANTED is WRONG by each MARK above its HEAT, not WANTED by all others: noted where that begins and ends. */
    private void stepMarks(Head of, int wanted) {
        for (int d = 0; d < DOTS; d++) {
            int above = Math.min(of.hot[d], MOST_MARK) + 1;
            if ((wanted >> d & 1) == 1) {
                markSteps[above]++;
            } else {
                markSteps[LEAST_MARK]++;
                markSteps[above]--;
            }
        }
    }

    private int bestCool(int n, int what) {
        int fewest = UNBOUNDED;
        int chosen = 0;
        for (int cool = 0; cool <= MOST_COOL; cool++) {
            trial.copyFrom(now);
            trial.rules[COOL] = cool;
            int wrong = wrongInTrial(n, fewest);
            if (wrong < fewest) {
                fewest = wrong;
                chosen = cool;
            }
        }
        return what == 0 ? chosen : fewest;
    }

    private int wrongIfSwapped(int i, int j, int n, int limit) {
        if (now.lines[i] == now.lines[j]) {
            return limit;
        }
        trial.copyFrom(now);
        trial.lines[i] = now.lines[j];
        trial.lines[j] = now.lines[i];
        return wrongInTrial(n, limit);
    }

    private int wrongIfResting(int behind, int n, int limit) {
        trial.copyFrom(now);
        int wrong = 0;
        for (int i = 0; i < n && wrong < limit; i++) {
            boolean rests = trial.lineIn(0) == behind;
            wrong += trial.burnRow(true);
            if (rests) {
                trial.loseHeat();
            }
        }
        return wrong;
    }

    // ---- odds: bit i of 'without' says that ROW i is without power

    private static long raised(int v, int times) {
        long product = 1;
        for (int i = 0; i < times; i++) {
            product *= v;
        }
        return product;
    }

    private static long weightOf(int without, int v, int n) {
        int off = Integer.bitCount(without);
        return raised(v, off) * raised(10 - v, n - off);
    }

    private boolean loneIsRight(int h, int n, int without) {
        lone.copyFrom(now.heads[h]);
        for (int i = 0; i < n; i++) {
            if (burnLone(i, (without >> i & 1) == 0) != now.wantedIn(i)) {
                return false;
            }
        }
        return true;
    }

    private int wrongWithout(int n, int without) {
        trial.copyFrom(now);
        int wrong = 0;
        for (int i = 0; i < n; i++) {
            wrong += trial.burnRow((without >> i & 1) == 0);
        }
        return wrong;
    }

    /** The numerator (0), the denominator (1) of a fraction in lowest terms; 'by' is above 0. */
    private static long part(long number, long by, int what) {
        long common = by;
        long left = number;
        for (int turn = 0; turn < 200 && left != 0; turn++) {
            long next = common % left;
            common = left;
            left = next;
        }
        return (what == 0 ? number : by) / common;
    }

    // ---- SEEN

    /** KINDS (drive 0), POWERS (1) of a HEAD, as bits, by which all is as SEEN; what each burns is left in looks. */
    private int asSeenBy(int h, int drive) {
        if (!othersAsSeen(h)) {
            return 0;
        }
        int fitting = 0;
        for (int v = 0; v <= mostOf(drive); v++) {
            lone.copyFrom(now.heads[h]);
            lone.drive(drive, v);
            noteLooks(v);
            if (now.seen.agrees(h, looks, v * LOOKS)) {
                fitting |= 1 << v;
            }
        }
        return fitting;
    }

    /** No KIND or POWER of this HEAD mends what is not as SEEN of another. */
    private boolean othersAsSeen(int h) {
        for (int other = 0; other < now.headCount; other++) {
            if (other != h && now.seen.names(other)) {
                lone.copyFrom(now.heads[other]);
                noteLooks(0);
                if (!now.seen.agrees(other, looks, 0)) {
                    return false;
                }
            }
        }
        return true;
    }

    private void noteLooks(int v) {
        for (int n = 0; n < LOOKS; n++) {
            looks[v * LOOKS + n] = lone.burnLine(now, now.wantedIn(n), now.wantedIn(n + 1), true);
        }
    }

    private int leftAtWorst(int fitting, int n) {
        Arrays.fill(alike, 0);
        int worst = 0;
        for (int v = 0; v <= MOST_POWER; v++) {
            if ((fitting >> v & 1) == 1) {
                int bits = looks[v * LOOKS + n];
                alike[bits]++;
                worst = Math.max(worst, alike[bits]);
            }
        }
        return worst;
    }

    // ---- what there is

    private static final class Head {
        final int[] heat = new int[DOTS];
        /** HEATS when BLACK was told for the latest time. */
        final int[] hot = new int[DOTS];
        int kind;
        int power;
        int wrong;

        void begin(int newKind, int newPower) {
            kind = newKind;
            power = newPower;
            wrong = 0;
            Arrays.fill(heat, 0);
        }

        void copyFrom(Head other) {
            kind = other.kind;
            power = other.power;
            wrong = other.wrong;
            System.arraycopy(other.heat, 0, heat, 0, DOTS);
        }

        /** KIND (0), POWER (1) becomes v. */
        void drive(int what, int v) {
            if (what == 0) {
                kind = v;
            } else {
                power = v;
            }
        }

        int heatSum() {
            int sum = 0;
            for (int d = 0; d < DOTS; d++) {
                sum += heat[d];
            }
            return sum;
        }

        /** What a DOT GETS; a LINE has no bits beside DOTS 0 and 7, so these never have both neighbours. */
        int gain(int d, int wanted, int next) {
            if ((wanted >> d & 1) == 0) {
                return kind == EARLY && (next >> d & 1) == 1 ? power / 3 : 0;
            }
            int gets = power;
            if (kind == SAVER || kind == WARY) {
                gets -= heat[d] / 4;
            }
            if (kind == WARY && ((wanted << 1 & wanted >> 1) >> d & 1) == 1) {
                gets -= 2;
            }
            return gets < 0 ? 0 : gets;
        }

        /** Burns a LINE by the rules of a printer: which DOTS are BLACK. */
        int burnLine(Printer by, int wanted, int next, boolean powered) {
            int black = 0;
            for (int d = 0; d < DOTS; d++) {
                int gets = powered ? gain(d, wanted, next) : 0;
                hot[d] = Math.min(heat[d] + gets, MOST_HEAT);
                if (hot[d] >= by.rules[MARK]) {
                    black |= 1 << d;
                }
            }
            wrong = Math.min(wrong + Integer.bitCount(black ^ wanted), MOST_WRONG);
            settle(by.rules[COOL], by.rules[SPREAD]);
            return black;
        }

        /** What goes from a DOT to the next one comes to that one; both are told by how hot they were. */
        void settle(int cool, int spread) {
            int comes = 0;
            for (int d = 0; d < DOTS; d++) {
                int goes = d + 1 < DOTS ? (hot[d] - hot[d + 1]) * spread / 8 : 0;
                int left = hot[d] + comes - goes - cool;
                heat[d] = left < 0 ? 0 : left > MOST_HEAT ? MOST_HEAT : left;
                comes = goes;
            }
        }
    }

    private static final class Seen {
        final int[] row = new int[MOST_SEEN];
        final int[] head = new int[MOST_SEEN];
        final int[] bits = new int[MOST_SEEN];
        int count;

        void append(int n, int h, int b) {
            row[count] = n;
            head[count] = h;
            bits[count] = b;
            count++;
        }

        void copyFrom(Seen other) {
            count = other.count;
            System.arraycopy(other.row, 0, row, 0, MOST_SEEN);
            System.arraycopy(other.head, 0, head, 0, MOST_SEEN);
            System.arraycopy(other.bits, 0, bits, 0, MOST_SEEN);
        }

        boolean names(int h) {
            for (int s = 0; s < count; s++) {
                if (head[s] == h) {
                    return true;
                }
            }
            return false;
        }

        /** Whether what a HEAD burns, ROW by ROW from a place of looks on, is as SEEN of it. */
        boolean agrees(int h, int[] looks, int from) {
            for (int s = 0; s < count; s++) {
                if (head[s] == h && looks[from + row[s]] != bits[s]) {
                    return false;
                }
            }
            return true;
        }
    }

    /** All that a text tells and an IMAGE keeps. */
    private static final class Printer {
        final Head[] heads = new Head[MOST_HEADS];
        final int[] lines = new int[MOST_LINES];
        final int[] rules = new int[RULES];
        final Seen seen = new Seen();
        int headCount;
        int lineCount;
        int row;
        /** How many DOTS were BLACK in the latest ROW. */
        int latestBlack;

        Printer() {
            for (int h = 0; h < MOST_HEADS; h++) {
                heads[h] = new Head();
            }
            begin();
        }

        void begin() {
            headCount = 0;
            lineCount = 0;
            seen.count = 0;
            row = 0;
            System.arraycopy(FIRST_RULE, 0, rules, 0, RULES);
        }

        void copyFrom(Printer other) {
            headCount = other.headCount;
            for (int h = 0; h < headCount; h++) {
                heads[h].copyFrom(other.heads[h]);
            }
            lineCount = other.lineCount;
            System.arraycopy(other.lines, 0, lines, 0, MOST_LINES);
            seen.copyFrom(other.seen);
            System.arraycopy(other.rules, 0, rules, 0, RULES);
            row = other.row;
        }

        /** Which LINE is burnt in the ROW that is n behind this one; NONE. */
        int lineIn(int n) {
            return lineCount == 0 ? NONE : (row + n) % lineCount;
        }

        int wantedIn(int n) {
            return lineCount == 0 ? 0 : lines[lineIn(n)];
        }

        /** Burns a ROW: how many DOTS are WRONG in it. */
        int burnRow(boolean powered) {
            int wrong = burnLine(wantedIn(0), wantedIn(1), powered);
            row++;
            return wrong;
        }

        int burnLine(int wanted, int next, boolean powered) {
            int wrong = 0;
            latestBlack = 0;
            for (int h = 0; h < headCount; h++) {
                int black = heads[h].burnLine(this, wanted, next, powered);
                latestBlack += Integer.bitCount(black);
                wrong += Integer.bitCount(black ^ wanted);
            }
            return wrong;
        }

        /** The greatest HEAT when BLACK was told in the latest ROW. */
        int hottest() {
            int most = 0;
            for (int h = 0; h < headCount; h++) {
                for (int d = 0; d < DOTS; d++) {
                    most = Math.max(most, heads[h].hot[d]);
                }
            }
            return most;
        }

        void loseHeat() {
            for (int h = 0; h < headCount; h++) {
                Arrays.fill(heads[h].heat, 0);
            }
        }

        int wrongOfAll() {
            int sum = 0;
            for (int h = 0; h < headCount; h++) {
                sum += heads[h].wrong;
            }
            return sum;
        }

        int heatOfAll() {
            int sum = 0;
            for (int h = 0; h < headCount; h++) {
                sum += heads[h].heatSum();
            }
            return sum;
        }

        int powerOfAll() {
            int sum = 0;
            for (int h = 0; h < headCount; h++) {
                sum += heads[h].power;
            }
            return sum;
        }

        int wantedOfAll() {
            int sum = 0;
            for (int i = 0; i < lineCount; i++) {
                sum += Integer.bitCount(lines[i]);
            }
            return sum;
        }
    }

    /** A row of CELLS that remembers of which lane it is, or nothing. */
    private static final class Sheet {
        final int[] cells = new int[MOST_CELLS];
        boolean there;
        int lane;
        int size;

        void renew(int newLane, int newSize) {
            there = true;
            lane = newLane;
            size = newSize;
            Arrays.fill(cells, 0);
        }

        /** What the machine would find as CELL i is reached in this row taken as of a lane; 0. */
        int faultOf(int asLane, int i) {
            if (!there) {
                return NULL_FAULT;
            }
            if (lane != asLane) {
                return CAST_FAULT;
            }
            return i < 0 || i >= size ? INDEX_FAULT : 0;
        }

        int pairFault(int asLane, int from, int pair) {
            int first = faultOf(asLane, from + 2 * pair);
            return first != 0 ? first : faultOf(asLane, from + 2 * pair + 1);
        }

        void put(int i, int v) {
            switch (lane) {
                case 0:
                    cells[i] = (byte) v;
                    break;
                case 1:
                    cells[i] = (short) v;
                    break;
                default:
                    cells[i] = v;
                    break;
            }
        }
    }

    /** THE TAPE; it is taken apart TOKEN by TOKEN, up to its end or its first FAULT. */
    private static final class Tape {
        static final int ROOM = 160, FIGURES = 3;
        static final int END = 0, NAME = 1, NUMBER = 2, STOP = 3, NO_TOKEN = 4;
        /** The NAMES that begin a line: KINDS come first, then the rules. */
        static final int NAMES = 8, FIRST_RULE_NAME = 4, LINES_NAME = 7;

        final byte[] bytes = new byte[ROOM];
        int size;
        int fault;
        int faultPlace;
        int token;
        /** Where the TOKEN begins, and where the next one is looked for. */
        int from;
        int at;
        int number;
        /** Bits of those NAMES that were met and may not come again. */
        int met;

        static String nameOf(int name) {
            switch (name) {
                case 0: return "plain";
                case 1: return "saver";
                case 2: return "wary";
                case 3: return "early";
                case 4: return "mark";
                case 5: return "cool";
                case 6: return "spread";
                default: return "lines";
            }
        }

        /** How many lines were read, all of them if there is no fault. */
        int readInto(Printer draft) {
            draft.begin();
            fault = 0;
            at = 0;
            met = 0;
            int told = 0;
            while (told <= ROOM && step() && token != END && readLine(draft)) {
                told++;
            }
            return told;
        }

        boolean refuse(int because) {
            fault = because;
            faultPlace = from;
            return false;
        }

        int sortOf(int c) {
            if (c >= 'a' && c <= 'z') {
                return NAME;
            }
            if (c >= '0' && c <= '9') {
                return NUMBER;
            }
            return c == ';' ? STOP : NO_TOKEN;
        }

        /** Reads a TOKEN, which may be the end. */
        boolean step() {
            while (at < size && bytes[at] == ' ') {
                at++;
            }
            from = at;
            if (at >= size) {
                token = END;
                return true;
            }
            token = sortOf(bytes[at]);
            at++;
            while (token != STOP && at < size && sortOf(bytes[at]) == token) {
                at++;
            }
            boolean whole = token != NO_TOKEN && (token != NUMBER || at - from <= FIGURES);
            return whole || refuse(1);
        }

        boolean stepTo(int due) {
            return step() && (token == due || refuse(2));
        }

        /** Takes the TOKEN, a NUMBER, for its value. */
        boolean takeNumber(int least, int most) {
            number = 0;
            for (int i = from; i < at; i++) {
                number = number * 10 + bytes[i] - '0';
            }
            return number >= least && number <= most || refuse(3);
        }

        boolean isName(String name) {
            if (name.length() != at - from) {
                return false;
            }
            for (int i = 0; i < name.length(); i++) {
                if (bytes[from + i] != name.charAt(i)) {
                    return false;
                }
            }
            return true;
        }

        int nameIndex() {
            for (int name = 0; name < NAMES; name++) {
                if (isName(nameOf(name))) {
                    return name;
                }
            }
            return NONE;
        }

        boolean readLine(Printer draft) {
            int name = nameIndex();
            if (name == NONE) {
                return refuse(2);
            }
            if (name < FIRST_RULE_NAME) {
                return readHead(draft, name);
            }
            if ((met >> name & 1) == 1) {
                return refuse(4);
            }
            met |= 1 << name;
            return name == LINES_NAME ? readLines(draft) : readRule(draft, name - FIRST_RULE_NAME);
        }

        boolean readHead(Printer draft, int kind) {
            if (draft.headCount >= MOST_HEADS) {
                return refuse(5);
            }
            if (!stepTo(NUMBER) || !takeNumber(0, MOST_POWER)) {
                return false;
            }
            draft.heads[draft.headCount].begin(kind, number);
            draft.headCount++;
            return stepTo(STOP);
        }

        boolean readRule(Printer draft, int rule) {
            if (!stepTo(NUMBER) || !takeNumber(LEAST_RULE[rule], MOST_RULE[rule])) {
                return false;
            }
            draft.rules[rule] = number;
            return stepTo(STOP);
        }

        boolean readLines(Printer draft) {
            if (!stepTo(NUMBER)) {
                return false;
            }
            while (draft.lineCount < MOST_LINES && token == NUMBER) {
                if (!takeNumber(0, ALL_DOTS)) {
                    return false;
                }
                draft.lines[draft.lineCount] = number;
                draft.lineCount++;
                if (!step()) {
                    return false;
                }
            }
            if (token == NUMBER) {
                return refuse(5);
            }
            return token == STOP || refuse(2);
        }
    }
}
