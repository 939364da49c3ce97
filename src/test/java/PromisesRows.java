/** Promises 10 to 20: what is changed, and rows. */
public final class PromisesRows {
    private static final int BAD = -1, FULL = -3, NONE = -4;
    private static final Due DUE = new Due("PromisesRows");

    private static void alter() {
        HotDots x = Due.of("plain 20; saver 10;");
        DUE.is("alter(1, 0, 3)", x.alter(1, 0, 3), 1);
        DUE.is("head(1, 0)", x.head(1, 0), 3);
        DUE.is("head(0, 0)", x.head(0, 0), 0);
        DUE.is("alter(1, 1, 30)", x.alter(1, 1, 30), 10);
        DUE.is("alter(1, 1, 0)", x.alter(1, 1, 0), 30);
        DUE.is("head(1, 1)", x.head(1, 1), 0);
        DUE.is("head(0, 1)", x.head(0, 1), 20);
        int[][] bad = {{-1, 0, 0}, {2, 0, 0}, {0, -1, 0}, {0, 2, 0}, {0, 0, 4}, {0, 0, -1}, {0, 1, 31}, {0, 1, -1}};
        for (int[] b : bad) {
            DUE.is("alter(" + b[0] + ", " + b[1] + ", " + b[2] + ")", x.alter(b[0], b[1], b[2]), BAD);
        }
        DUE.is("head(0, 0) stays", x.head(0, 0), 0);
        DUE.is("head(0, 1) stays", x.head(0, 1), 20);
    }

    private static void tell() {
        HotDots x = new HotDots();
        int[][] good = {{0, 60, 20}, {0, 1, 60}, {1, 9, 3}, {1, 0, 9}, {2, 3, 0}, {2, 0, 3}};
        for (int[] g : good) {
            DUE.is("tell(" + g[0] + ", " + g[1] + ")", x.tell(g[0], g[1]), g[2]);
            DUE.is("rule(" + (3 + g[0]) + ")", x.rule(3 + g[0]), g[1]);
        }
        int[][] bad = {{0, 0}, {0, 61}, {1, -1}, {1, 10}, {2, -1}, {2, 4}, {-1, 1}, {3, 1}};
        for (int[] b : bad) {
            DUE.is("tell(" + b[0] + ", " + b[1] + ")", x.tell(b[0], b[1]), BAD);
        }
        DUE.is("rule(3)", x.rule(3), 1);
        DUE.is("rule(4)", x.rule(4), 0);
        DUE.is("rule(5)", x.rule(5), 0);
    }

    private static void warm() {
        HotDots x = Due.of("plain 1; plain 2;");
        DUE.is("warm(1, 7, 99)", x.warm(1, 7, 99), 0);
        DUE.is("dot(1, 7, 0)", x.dot(1, 7, 0), 99);
        DUE.is("dot(0, 7, 0)", x.dot(0, 7, 0), 0);
        DUE.is("warm(1, 7, 0)", x.warm(1, 7, 0), 99);
        int[][] bad = {{2, 0, 0}, {-1, 0, 0}, {0, 8, 0}, {0, -1, 0}, {0, 0, 100}, {0, 0, -1}};
        for (int[] b : bad) {
            DUE.is("warm(" + b[0] + ", " + b[1] + ", " + b[2] + ")", x.warm(b[0], b[1], b[2]), BAD);
        }
        DUE.is("head(0, 3)", x.head(0, 3), 0);
    }

    private static void lines() {
        HotDots x = new HotDots();
        DUE.is("set(0, 1), no lines", x.set(0, 1), BAD);
        for (int i = 1; i <= 12; i++) {
            DUE.is("add(" + i + ")", x.add(i), i);
        }
        DUE.is("add(13)", x.add(13), FULL);
        DUE.is("add(256), full", x.add(256), BAD);
        DUE.is("add(-1), full", x.add(-1), BAD);
        DUE.is("line(11)", x.line(11), 12);
        DUE.is("set(11, 255)", x.set(11, 255), 12);
        DUE.is("set(11, 0)", x.set(11, 0), 255);
        DUE.is("set(11, 256)", x.set(11, 256), BAD);
        DUE.is("set(11, -1)", x.set(11, -1), BAD);
        DUE.is("set(12, 1)", x.set(12, 1), BAD);
        DUE.is("set(-1, 1)", x.set(-1, 1), BAD);
        DUE.is("line(11) stays", x.line(11), 0);
        DUE.is("cut(13)", x.cut(13), BAD);
        DUE.is("cut(-1)", x.cut(-1), BAD);
        DUE.is("cut(12)", x.cut(12), 12);
        DUE.is("cut(2)", x.cut(2), 12);
        DUE.is("line(1)", x.line(1), 2);
        DUE.is("line(2)", x.line(2), BAD);
        DUE.is("cut(3)", x.cut(3), BAD);
        DUE.is("add(255)", x.add(255), 3);
        DUE.is("add(-1)", x.add(-1), BAD);
        DUE.is("line(2), new", x.line(2), 255);
        DUE.is("cut(0)", x.cut(0), 3);
        DUE.is("cut(0), none", x.cut(0), 0);
        // ROW stays where it is as LINES change: ROW 5 by 3 leaves 2, by 2 leaves 1.
        x = Due.of("lines 1 2 4;");
        x.burn(5);
        DUE.is("rule(7) by 3", x.rule(7), 4);
        x.cut(2);
        DUE.is("rule(7) by 2", x.rule(7), 2);
        x.cut(0);
        DUE.is("rule(7) by none", x.rule(7), 0);
        DUE.is("rule(2)", x.rule(2), 5);
    }

    private static void heats(HotDots x, String name, int... due) {
        for (int d = 0; d < 8; d++) {
            DUE.is(name + ": dot(0, " + d + ", 0)", x.dot(0, d, 0), due[d]);
        }
    }

    private static void heatGoes() {
        HotDots x = Due.of("plain 30; cool 0; spread 3; mark 60;");
        x.warm(0, 0, 80);
        DUE.is("burn(1), a ghost", x.burn(1), 1);
        heats(x, "to the right", 50, 30, 0, 0, 0, 0, 0, 0);
        // 50 to 30: 60 by 8 is 7; 30 to 0: 90 by 8 is 11; all at once.
        x.burn(1);
        heats(x, "on", 43, 30 + 7 - 11, 11, 0, 0, 0, 0, 0);
        x = Due.of("plain 30; cool 0; spread 1;");
        x.warm(0, 7, 80);
        x.burn(1);
        heats(x, "to the left", 0, 0, 0, 0, 0, 0, 10, 70);
        x = Due.of("plain 30; cool 0; spread 1;");
        x.warm(0, 3, 7);
        x.burn(1);
        heats(x, "towards 0", 0, 0, 0, 7, 0, 0, 0, 0);
        x = Due.of("plain 30; cool 9; spread 2;");
        x.warm(0, 3, 40);
        x.warm(0, 7, 8);
        x.burn(1);
        heats(x, "cooled besides", 0, 0, 1, 11, 1, 0, 0, 0);
        x = Due.of("plain 30; cool 3; lines 1;");
        x.warm(0, 0, 90);
        DUE.is("runs(1, 2), 99 at most", x.runs(1, 2), 99);
        x.burn(1);
        heats(x, "99 at most", 96, 0, 0, 0, 0, 0, 0, 0);
    }

    private static void burn() {
        HotDots x = Due.of("plain 20; saver 20; lines 1;");
        DUE.is("burn(0)", x.burn(0), 0);
        DUE.is("burn(-1)", x.burn(-1), BAD);
        DUE.is("burn(61)", x.burn(61), BAD);
        DUE.is("rule(2)", x.rule(2), 0);
        DUE.is("burn(1), just the MARK", x.burn(1), 0);
        DUE.is("dot(1, 0, 0)", x.dot(1, 0, 0), 17);
        DUE.is("burn(1)", x.burn(1), 0);
        DUE.is("dot(0, 0, 0)", x.dot(0, 0, 0), 17 + 20 - 3);
        DUE.is("dot(1, 0, 0), saver", x.dot(1, 0, 0), 17 + 16 - 3);
        x.tell(0, 60);
        DUE.is("burn(1), gaps", x.burn(1), 2);
        x.cut(0);
        x.tell(0, 1);
        DUE.is("burn(1), ghosts", x.burn(1), 2);
        DUE.is("head(0, 2)", x.head(0, 2), 2);
        DUE.is("rule(6)", x.rule(6), 4);
        HotDots empty = new HotDots();
        DUE.is("no heads: burn(60)", empty.burn(60), 0);
        DUE.is("no heads: rule(2)", empty.rule(2), 60);
    }

    private static void burnToTheEnd() {
        HotDots x = Due.of("plain 0; plain 0; mark 60; lines 255;");
        for (int i = 0; i < 166; i++) {
            DUE.is("burn(60), all gaps", x.burn(60), 960);
        }
        DUE.is("head(0, 2), 9999 at most", x.head(0, 2), 9999);
        DUE.is("rule(6)", x.rule(6), 19998);
        DUE.is("burn(40)", x.burn(40), FULL);
        DUE.is("burn(61), BAD ahead of FULL", x.burn(61), BAD);
        DUE.is("rule(2)", x.rule(2), 9960);
        DUE.is("burn(39)", x.burn(39), 39 * 16);
        DUE.is("rule(2), the last", x.rule(2), 9999);
        DUE.is("burn(1)", x.burn(1), FULL);
        DUE.is("burn(0)", x.burn(0), 0);
        DUE.is("runs(60, 0), beyond", x.runs(60, 0), 960);
        DUE.is("rule(2), the last", x.rule(2), 9999);
    }

    /** 9999 is not passed in the midst of a ROW: 8 each, 1250 ROWS are 10000. */
    private static void wrongIsFull() {
        HotDots x = Due.of("plain 0; mark 60; lines 255;");
        for (int i = 0; i < 20; i++) {
            x.burn(60);
        }
        x.burn(49);
        DUE.is("head(0, 2)", x.head(0, 2), 9992);
        DUE.is("burn(1)", x.burn(1), 8);
        DUE.is("head(0, 2), full", x.head(0, 2), 9999);
    }

    private static void runs() {
        // plain 20 by 3 cool: 20, 17 | 17, 37 | 31 .. : DOT 1 burns from ROW 1 on, ghosts from ROW 3 on.
        HotDots x = Due.of("plain 20; plain 0; lines 1 2;");
        DUE.is("runs(3, 0)", x.runs(3, 0), 3);
        DUE.is("runs(4, 0)", x.runs(4, 0), 4 + 1);
        DUE.is("runs(3, 1)", x.runs(3, 1), 3);
        DUE.is("runs(4, 1)", x.runs(4, 1), 5);
        DUE.is("runs(3, 2)", x.runs(3, 2), 34);
        DUE.is("runs(3, 3)", x.runs(3, 3), 3);
        for (int what = 0; what < 4; what++) {
            DUE.is("runs(0, " + what + ")", x.runs(0, what), 0);
            DUE.is("runs(61, " + what + ")", x.runs(61, what), BAD);
            DUE.is("runs(-1, " + what + ")", x.runs(-1, what), BAD);
        }
        DUE.is("runs(1, -1)", x.runs(1, -1), BAD);
        DUE.is("runs(1, 4)", x.runs(1, 4), BAD);
        DUE.is("rule(2), nothing was burnt", x.rule(2), 0);
        DUE.is("rule(6), nothing was burnt", x.rule(6), 0);
        DUE.is("head(0, 3), nothing was burnt", x.head(0, 3), 0);
        x.alter(1, 1, 20);
        DUE.is("runs(3, 3), none wrong", x.runs(3, 3), 0);
        DUE.is("runs(4, 3), two wrong on one", x.runs(4, 3), 1);
        DUE.is("runs(4, 0), two wrong on one", x.runs(4, 0), 2);
        DUE.is("runs(2, 2) with no heads", new HotDots().runs(2, 2), 0);
    }

    private static void blackAhead() {
        HotDots x = Due.of("plain 0; plain 20; lines 1 2;");
        int[] black = {1, 2, 1, 3};
        for (int n = 0; n < black.length; n++) {
            DUE.is("black(1, " + n + ")", x.black(1, n), black[n]);
            DUE.is("black(0, " + n + ")", x.black(0, n), 0);
        }
        int[] heat = {0, 17, 14, 31, 28};
        for (int n = 0; n < heat.length; n++) {
            DUE.is("ahead(1, 0, " + n + ")", x.ahead(1, 0, n), heat[n]);
        }
        DUE.is("ahead(1, 1, 4)", x.ahead(1, 1, 4), 31);
        x.burn(1);
        DUE.is("black(1, 0), one on", x.black(1, 0), 2);
        DUE.is("ahead(1, 0, 0), one on", x.ahead(1, 0, 0), 17);
        // By then it is as hot as may be: 99 less 3 behind a row in which it is WANTED, 3 less behind the next.
        DUE.is("ahead(1, 0, 59)", x.ahead(1, 0, 59), 93);
        DUE.is("ahead(1, 0, 60)", x.ahead(1, 0, 60), 96);
        int[][] bad = {{-1, 0}, {2, 0}, {0, -1}, {0, 61}};
        for (int[] b : bad) {
            DUE.is("black(" + b[0] + ", " + b[1] + ")", x.black(b[0], b[1]), BAD);
            DUE.is("ahead(" + b[0] + ", 0, " + b[1] + ")", x.ahead(b[0], 0, b[1]), BAD);
        }
        DUE.is("ahead(0, 8, 0)", x.ahead(0, 8, 0), BAD);
        DUE.is("ahead(0, -1, 0)", x.ahead(0, -1, 0), BAD);
        DUE.is("rule(2)", x.rule(2), 1);
    }

    private static void when() {
        HotDots x = Due.of("plain 20; plain 0; lines 1 2;");
        DUE.is("when(0)", x.when(0), 3);
        DUE.is("when(1)", x.when(1), 0);
        x.burn(1);
        DUE.is("when(0), one on", x.when(0), 2);
        DUE.is("when(2)", x.when(2), BAD);
        DUE.is("when(-1)", x.when(-1), BAD);
        // Without power it is 99 less one a row: 40 in ROW 59, 39 in ROW 60, 38 in ROW 61.
        x = Due.of("plain 0; cool 1; lines 1;");
        x.warm(0, 0, 99);
        x.tell(0, 40);
        DUE.is("when(0), the last", x.when(0), 60);
        DUE.is("black(0, 59)", x.black(0, 59), 1);
        DUE.is("black(0, 60)", x.black(0, 60), 0);
        x.tell(0, 39);
        DUE.is("when(0), in none", x.when(0), NONE);
        x.burn(1);
        DUE.is("when(0), one on", x.when(0), 60);
    }

    public static void main(String[] args) {
        alter();
        tell();
        warm();
        lines();
        heatGoes();
        burn();
        burnToTheEnd();
        wrongIsFull();
        runs();
        blackAhead();
        when();
        DUE.close();
    }
}
