/** Promises 21 to 27: what is best, and rows without power. */
public final class PromisesBest {
    private static final int BAD = -1, NONE = -4;
    private static final Due DUE = new Due("PromisesBest");

    private static void power() {
        HotDots x = Due.of("plain 5; plain 20; lines 1;");
        DUE.is("power(0, 1, 0)", x.power(0, 1, 0), 20);
        DUE.is("power(0, 1, 1)", x.power(0, 1, 1), 0);
        DUE.is("power(0, 0, 0)", x.power(0, 0, 0), 0);
        DUE.is("power(0, 0, 1)", x.power(0, 0, 1), 0);
        x.tell(0, 60);
        DUE.is("power(0, 1, 0), by none", x.power(0, 1, 0), 0);
        DUE.is("power(0, 1, 1), of it alone", x.power(0, 1, 1), 1);
        // 30 and 57 are too little, 84 is not: 2 in three rows by 22 (22, 41, 60) already.
        DUE.is("power(0, 3, 0)", x.power(0, 3, 0), 22);
        DUE.is("power(0, 3, 1)", x.power(0, 3, 1), 2);
        x.warm(0, 0, 30);
        DUE.is("power(0, 1, 0), the greatest", x.power(0, 1, 0), 30);
        DUE.is("power(0, 60, 1), the most rows", x.power(0, 60, 1), 0);
        DUE.is("head(0, 1) stays", x.head(0, 1), 5);
        DUE.is("head(0, 3) stays", x.head(0, 3), 30);
        int[][] bad = {{-1, 0, 0}, {2, 0, 0}, {0, -1, 0}, {0, 61, 0}, {0, 0, -1}, {0, 0, 2}};
        for (int[] b : bad) {
            DUE.is("power(" + b[0] + ", " + b[1] + ", " + b[2] + ")", x.power(b[0], b[1], b[2]), BAD);
            DUE.is("kind(" + b[0] + ", " + b[1] + ", " + b[2] + ")", x.kind(b[0], b[1], b[2]), BAD);
        }
    }

    private static void kind() {
        HotDots x = Due.of("wary 20; early 0; lines 1;");
        DUE.is("kind(0, 1, 0), the first", x.kind(0, 1, 0), 0);
        DUE.is("kind(0, 1, 1)", x.kind(0, 1, 1), 0);
        DUE.is("kind(1, 60, 0)", x.kind(1, 60, 0), 0);
        DUE.is("kind(1, 60, 1)", x.kind(1, 60, 1), 60);
        // 10, 15 (saver 14), then 10 is a ghost, 9 is none.
        x = Due.of("plain 10; mark 10; cool 5; lines 1 1 0;");
        DUE.is("kind(0, 3, 0), saver", x.kind(0, 3, 0), 1);
        DUE.is("kind(0, 3, 1), saver", x.kind(0, 3, 1), 0);
        // The one in the midst: 20 leaves 17, a ghost; 18 leaves 15.
        x = Due.of("plain 20; mark 17; cool 3; lines 7 5;");
        DUE.is("kind(0, 2, 0), wary", x.kind(0, 2, 0), 2);
        DUE.is("kind(0, 2, 1), wary", x.kind(0, 2, 1), 0);
        // DOT 0 is a gap by all; DOT 1 has 18, but early 6 - 4 + 18.
        x = Due.of("plain 18; mark 20; cool 4; lines 1 2 0 0;");
        DUE.is("kind(0, 2, 0), early", x.kind(0, 2, 0), 3);
        DUE.is("kind(0, 2, 1), early", x.kind(0, 2, 1), 1);
        DUE.is("head(0, 0) stays", x.head(0, 0), 0);
    }

    private static void best() {
        HotDots x = Due.of("plain 20; lines 1 0;");
        DUE.is("best(0, 2, 0)", x.best(0, 2, 0), 18);
        DUE.is("best(0, 2, 1)", x.best(0, 2, 1), 0);
        DUE.is("best(1, 2, 0)", x.best(1, 2, 0), 1);
        DUE.is("best(1, 2, 1)", x.best(1, 2, 1), 0);
        DUE.is("best(0, 0, 0)", x.best(0, 0, 0), 1);
        DUE.is("best(1, 0, 0)", x.best(1, 0, 0), 0);
        DUE.is("rule(3) stays", x.rule(3), 20);
        DUE.is("rule(4) stays", x.rule(4), 3);
        x = Due.of("plain 20; plain 30; lines 1 0;");
        DUE.is("best(0, 2, 0), of all", x.best(0, 2, 0), 18);
        DUE.is("best(0, 2, 1), of all", x.best(0, 2, 1), 1);
        x = Due.of("plain 0; cool 9;");
        x.warm(0, 4, 59);
        DUE.is("best(0, 1, 0), the greatest", x.best(0, 1, 0), 60);
        DUE.is("best(0, 1, 1)", x.best(0, 1, 1), 0);
        x.warm(0, 4, 60);
        DUE.is("best(0, 1, 0), by none", x.best(0, 1, 0), 1);
        DUE.is("best(0, 1, 1), by none", x.best(0, 1, 1), 1);
        x.warm(0, 4, 99);
        DUE.is("best(0, 1, 1), the hottest", x.best(0, 1, 1), 1);
        x.warm(0, 4, 28);
        DUE.is("best(1, 2, 0), the greatest", x.best(1, 2, 0), 9);
        DUE.is("best(1, 2, 1)", x.best(1, 2, 1), 1);
        HotDots none = new HotDots();
        DUE.is("best(0, 60, 0), no heads", none.best(0, 60, 0), 1);
        DUE.is("best(1, 60, 1), no heads", none.best(1, 60, 1), 0);
        int[][] bad = {{-1, 0, 0}, {2, 0, 0}, {0, -1, 0}, {0, 61, 0}, {1, 0, -1}, {1, 0, 2}};
        for (int[] b : bad) {
            DUE.is("best(" + b[0] + ", " + b[1] + ", " + b[2] + ")", x.best(b[0], b[1], b[2]), BAD);
        }
    }

    private static void swap() {
        HotDots x = Due.of("plain 0; mark 60; lines 3 1 0;");
        DUE.is("swap(1, 0)", x.swap(1, 0), 2);
        DUE.is("swap(1, 1)", x.swap(1, 1), 0);
        DUE.is("swap(3, 0), in the end the same", x.swap(3, 0), NONE);
        DUE.is("swap(3, 1), in the end the same", x.swap(3, 1), NONE);
        DUE.is("swap(0, 0)", x.swap(0, 0), NONE);
        DUE.is("line(0) stays", x.line(0), 3);
        x.set(1, 0);
        DUE.is("swap(1, 0), the least", x.swap(1, 0), 1);
        x = Due.of("plain 0; plain 0; mark 60; lines 0 3 1 0 1;");
        DUE.is("swap(2, 0)", x.swap(2, 0), 103);
        DUE.is("swap(2, 1)", x.swap(2, 1), 0);
        DUE.is("swap(3, 1), of all", x.swap(3, 1), 2);
        x.burn(1);
        DUE.is("swap(1, 0), one on", x.swap(1, 0), 1);
        StringBuilder text = new StringBuilder("plain 0; mark 60; lines");
        for (int i = 0; i < 10; i++) {
            text.append(" 0");
        }
        x = Due.of(text.append(" 1 0;").toString());
        DUE.is("swap(11, 0), the last two", x.swap(11, 0), 1011);
        DUE.is("swap(60, 0), none", x.swap(60, 0), NONE);
        DUE.is("swap(5, 1), none wrong", x.swap(5, 1), NONE);
        DUE.is("swap(5, 0), no lines", new HotDots().swap(5, 0), NONE);
        int[][] bad = {{-1, 0}, {61, 0}, {0, -1}, {0, 2}};
        for (int[] b : bad) {
            DUE.is("swap(" + b[0] + ", " + b[1] + ")", x.swap(b[0], b[1]), BAD);
            DUE.is("rest(" + b[0] + ", " + b[1] + ")", x.rest(b[0], b[1]), BAD);
        }
    }

    private static void rest() {
        HotDots x = Due.of("plain 20; cool 0; lines 1 0;");
        DUE.is("rest(2, 0)", x.rest(2, 0), 0);
        DUE.is("rest(2, 1)", x.rest(2, 1), 0);
        DUE.is("rest(1, 0), none wrong", x.rest(1, 0), NONE);
        DUE.is("rest(1, 1), none wrong", x.rest(1, 1), NONE);
        DUE.is("rest(0, 0)", x.rest(0, 0), NONE);
        x.set(1, 1);
        x.add(0);
        DUE.is("rest(3, 0)", x.rest(3, 0), 1);
        DUE.is("rest(60, 0), whenever", x.rest(60, 0), 1);
        DUE.is("rest(60, 1), whenever", x.rest(60, 1), 0);
        DUE.is("head(0, 3) stays", x.head(0, 3), 0);
        x.burn(2);
        DUE.is("rest(1, 0), too late", x.rest(1, 0), NONE);
        DUE.is("rest(4, 0), two on", x.rest(4, 0), 1);
        DUE.is("rest(4, 1), two on", x.rest(4, 1), 1);
        // All HEADS are cold then, each DOT to the last degree: by 1 more there would be a ghost.
        x = Due.of("plain 20; plain 20; mark 1; cool 0; lines 255 0;");
        DUE.is("rest(2, 1), all of them", x.rest(2, 1), 0);
        // Two lines do as well as one another: behind either of them DOT 0 is cold for line 2.
        x = Due.of("plain 20; cool 0; lines 1 0 0;");
        x.warm(0, 7, 50);
        DUE.is("rest(3, 0), the first", x.rest(3, 0), 0);
        DUE.is("rest(3, 1), the first", x.rest(3, 1), 1);
        DUE.is("rest(5, 0), no lines", new HotDots().rest(5, 0), NONE);
    }

    private static void fraction(String name, long number, long by, long dueNumber, long dueBy) {
        DUE.is(name + " above", number, dueNumber);
        DUE.is(name + " below", by, dueBy);
    }

    private static void luck() {
        HotDots x = Due.of("plain 20; plain 0; mark 17; lines 1;");
        fraction("luck(3, 0, 1)", x.luck(3, 0, 1, 0), x.luck(3, 0, 1, 1), 7, 10);
        fraction("luck(5, 0, 1)", x.luck(5, 0, 1, 0), x.luck(5, 0, 1, 1), 1, 2);
        // What is left of ROW 0 is enough for ROW 1, not for ROW 2.
        fraction("luck(3, 0, 2)", x.luck(3, 0, 2, 0), x.luck(3, 0, 2, 1), 7, 10);
        fraction("luck(3, 0, 3)", x.luck(3, 0, 3, 0), x.luck(3, 0, 3, 1), 637, 1000);
        fraction("luck(3, 1, 1)", x.luck(3, 1, 1, 0), x.luck(3, 1, 1, 1), 0, 1);
        fraction("luck(10, 0, 6)", x.luck(10, 0, 6, 0), x.luck(10, 0, 6, 1), 0, 1);
        fraction("luck(0, 0, 6)", x.luck(0, 0, 6, 0), x.luck(0, 0, 6, 1), 1, 1);
        fraction("luck(9, 1, 0)", x.luck(9, 1, 0, 0), x.luck(9, 1, 0, 1), 1, 1);
        x.tell(0, 20);
        fraction("luck(3, 0, 6), each", x.luck(3, 0, 2, 0), x.luck(3, 0, 2, 1), 49, 100);
        // An early one gets nothing ahead of its time without power.
        x = Due.of("early 30; mark 10; lines 0 1 0;");
        fraction("luck early", x.luck(2, 0, 1, 0), x.luck(2, 0, 1, 1), 1, 5);
        x = Due.of("plain 30; mark 1; lines 0;");
        fraction("luck, nothing WANTED", x.luck(2, 0, 1, 0), x.luck(2, 0, 1, 1), 1, 1);
        DUE.is("rule(2) stays", x.rule(2), 0);
        DUE.is("head(0, 3) stays", x.head(0, 3), 0);
        int[][] bad = {{-1, 0, 0, 0}, {11, 0, 0, 0}, {0, -1, 0, 0}, {0, 1, 0, 0}, {0, 0, -1, 0}, {0, 0, 7, 0},
            {0, 0, 0, -1}, {0, 0, 0, 2}};
        for (int[] b : bad) {
            DUE.is("luck(" + b[0] + ", " + b[1] + ", " + b[2] + ", " + b[3] + ")", x.luck(b[0], b[1], b[2], b[3]), BAD);
        }
    }

    private static void mean() {
        HotDots x = Due.of("plain 20; lines 1;");
        fraction("mean(3, 1)", x.mean(3, 1, 0), x.mean(3, 1, 1), 3, 10);
        fraction("mean(5, 1)", x.mean(5, 1, 0), x.mean(5, 1, 1), 1, 2);
        fraction("mean(0, 6)", x.mean(0, 6, 0), x.mean(0, 6, 1), 0, 1);
        fraction("mean(10, 6)", x.mean(10, 6, 0), x.mean(10, 6, 1), 6, 1);
        fraction("mean(7, 0)", x.mean(7, 0, 0), x.mean(7, 0, 1), 0, 1);
        fraction("mean, no heads", new HotDots().mean(3, 6, 0), new HotDots().mean(3, 6, 1), 0, 1);
        x = Due.of("plain 20; plain 0; lines 1;");
        fraction("mean(3, 1), of all", x.mean(3, 1, 0), x.mean(3, 1, 1), 13, 10);
        DUE.is("rule(6) stays", x.rule(6), 0);
        int[][] bad = {{-1, 0, 0}, {11, 0, 0}, {0, -1, 0}, {0, 7, 0}, {0, 0, -1}, {0, 0, 2}};
        for (int[] b : bad) {
            DUE.is("mean(" + b[0] + ", " + b[1] + ", " + b[2] + ")", x.mean(b[0], b[1], b[2]), BAD);
        }
    }

    public static void main(String[] args) {
        power();
        kind();
        best();
        swap();
        rest();
        luck();
        mean();
        DUE.close();
    }
}
