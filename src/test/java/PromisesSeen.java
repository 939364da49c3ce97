/** Promises 28 to 33: from what was burnt, and by a seed. */
public final class PromisesSeen {
    private static final int BAD = -1, STATE = -2, FULL = -3, NONE = -4;
    private static final Due DUE = new Due("PromisesSeen");

    private static void see() {
        HotDots x = Due.of("plain 20; plain 1; lines 1;");
        int[][] bad = {{-1, 0, 0}, {41, 0, 0}, {0, -1, 0}, {0, 2, 0}, {0, 0, -1}, {0, 0, 256}};
        for (int[] b : bad) {
            DUE.is("see(" + b[0] + ", " + b[1] + ", " + b[2] + ")", x.see(b[0], b[1], b[2]), BAD);
        }
        DUE.is("see(40, 0, 255)", x.see(40, 0, 255), 1);
        DUE.is("see(0, 1, 0)", x.see(0, 1, 0), 2);
        for (int i = 3; i <= 6; i++) {
            DUE.is("see(0, 0, 1)", x.see(0, 0, 1), i);
        }
        DUE.is("see(0, 0, 1), the seventh", x.see(0, 0, 1), FULL);
        DUE.is("see(0, 0, 256), BAD ahead of FULL", x.see(0, 0, 256), BAD);
        DUE.is("forget(7)", x.forget(7), BAD);
        DUE.is("forget(-1)", x.forget(-1), BAD);
        DUE.is("forget(6)", x.forget(6), 6);
        DUE.is("forget(2)", x.forget(2), 6);
        DUE.is("forget(3)", x.forget(3), BAD);
        DUE.is("count(0)", x.count(0), 2);
        DUE.is("see(0, 0, 1), again", x.see(0, 0, 1), 3);
        DUE.is("forget(0)", x.forget(0), 3);
        DUE.is("forget(0), none", x.forget(0), 0);
        DUE.is("see(0, 0, 0), no heads", new HotDots().see(0, 0, 0), BAD);
    }

    private static void kinds() {
        HotDots x = Due.of("plain 10; plain 10; mark 10; cool 5; lines 1 1 0;");
        DUE.is("kinds(0), nothing seen", x.kinds(0), 15);
        x.see(2, 0, 0);
        DUE.is("kinds(0), no ghost", x.kinds(0), 6);
        DUE.is("kinds(1), another is not as seen", x.kinds(1), 0);
        x.see(2, 0, 1);
        DUE.is("kinds(0), against itself", x.kinds(0), 0);
        x.forget(0);
        x.see(2, 0, 1);
        DUE.is("kinds(0), a ghost", x.kinds(0), 9);
        DUE.is("kinds(1), another is as seen", x.kinds(1), 15);
        x.see(2, 1, 0);
        DUE.is("kinds(1), no ghost", x.kinds(1), 6);
        DUE.is("kinds(0), another is not as seen", x.kinds(0), 0);
        DUE.is("kinds(2)", x.kinds(2), BAD);
        DUE.is("kinds(-1)", x.kinds(-1), BAD);
        DUE.is("head(0, 0) stays", x.head(0, 0), 0);
        // The first ones are kept.
        x.forget(1);
        DUE.is("kinds(0), the first alone", x.kinds(0), 9);
    }

    private static void powers() {
        HotDots x = Due.of("plain 3; plain 4; lines 1;");
        DUE.is("powers(0), nothing seen", x.powers(0), Integer.MAX_VALUE);
        x.see(0, 0, 0);
        DUE.is("powers(0), not black", x.powers(0), (1 << 20) - 1);
        DUE.is("powers(1), another is as seen", x.powers(1), Integer.MAX_VALUE);
        // 12 and 9 more, but 11 and 8 not.
        x.see(1, 0, 1);
        DUE.is("powers(0), black behind", x.powers(0), (1 << 20) - (1 << 12));
        DUE.is("powers(1), another is not as seen", x.powers(1), 0);
        x.see(0, 0, 2);
        DUE.is("powers(0), by none", x.powers(0), 0);
        x.forget(0);
        x.see(0, 1, 1);
        DUE.is("powers(1)", x.powers(1), (1 << 31) - (1 << 20));
        DUE.is("powers(0), another is not as seen", x.powers(0), 0);
        x.forget(0);
        x.see(40, 0, 0);
        // 40 rows by 3 to cool: by 3 alone nothing is left of it, by 4 there is 1 more each row, and 4: 44.
        DUE.is("powers(0), late", x.powers(0), 15);
        DUE.is("powers(2)", x.powers(2), BAD);
        DUE.is("powers(-1)", x.powers(-1), BAD);
        DUE.is("head(0, 1) stays", x.head(0, 1), 3);
    }

    private static void ask() {
        // In ROW n each POWER has come n + 1 times: 30 by 30, 15, 10, 8, 6 ..
        HotDots x = Due.of("plain 7; plain 7; mark 30; cool 0; lines 1;");
        DUE.is("ask(0, 0)", x.ask(0, 0), 1);
        DUE.is("ask(0, 1)", x.ask(0, 1), 16);
        x.see(1, 0, 0);
        DUE.is("ask(0, 0), of 0 to 14", x.ask(0, 0), 3);
        DUE.is("ask(0, 1), of 0 to 14", x.ask(0, 1), 8);
        DUE.is("ask(1, 0), all are left", x.ask(1, 0), 1);
        x.forget(0);
        x.see(1, 0, 1);
        DUE.is("ask(0, 0), of 15 to 30", x.ask(0, 0), 0);
        DUE.is("ask(0, 1), of 15 to 30", x.ask(0, 1), 15);
        DUE.is("ask(1, 0), none is left", x.ask(1, 0), NONE);
        x.see(0, 0, 1);
        DUE.is("ask(0, 0), 30 alone", x.ask(0, 0), NONE);
        DUE.is("ask(0, 1), 30 alone", x.ask(0, 1), NONE);
        x.forget(0);
        x.cut(0);
        DUE.is("ask(0, 0), they are all alike", x.ask(0, 0), NONE);
        DUE.is("ask(0, 1), they are all alike", x.ask(0, 1), NONE);
        int[][] bad = {{-1, 0}, {2, 0}, {0, -1}, {0, 2}};
        for (int[] b : bad) {
            DUE.is("ask(" + b[0] + ", " + b[1] + ")", x.ask(b[0], b[1]), BAD);
        }
        // By 1 it is 41 in ROW 40: there alone 0 and 1 are apart.
        x = Due.of("plain 0; mark 41; cool 0; lines 1;");
        x.see(20, 0, 0);
        DUE.is("powers(0), 21 times are not enough", x.powers(0), 3);
        DUE.is("ask(0, 0), the last", x.ask(0, 0), 40);
        DUE.is("ask(0, 1), the last", x.ask(0, 1), 1);
        x.tell(0, 42);
        DUE.is("ask(0, 0), too late", x.ask(0, 0), NONE);
    }

    private static void drift() {
        HotDots none = new HotDots();
        DUE.is("drift(1, 1, 0), no heads", none.drift(1, 1, 0), STATE);
        DUE.is("drift(1, 0, 0), BAD ahead of STATE", none.drift(1, 0, 0), BAD);
        DUE.is("drift(1, 1, 2), BAD ahead of STATE", none.drift(1, 1, 2), BAD);
        // 1 becomes 1103527590, of which 16838 is got, by 4 is 4209, and 113 is left: DOTS 0, 4, 5, 6.
        HotDots x = Due.of("plain 20; lines 255;");
        DUE.is("drift(1, 1, 0)", x.drift(1, 1, 0), 0);
        DUE.is("drift(1, 1, 1)", x.drift(1, 1, 1), 4 * 17);
        x.alter(0, 1, 19);
        DUE.is("drift(1, 1, 0), by 19", x.drift(1, 1, 0), 4);
        DUE.is("drift(1, 1, 1), by 19", x.drift(1, 1, 1), 4 * 16);
        // 0 becomes 12345: nothing is got.
        x.warm(0, 1, 50);
        DUE.is("drift(0, 1, 0), as hot as it is", x.drift(0, 1, 0), 1);
        DUE.is("drift(0, 1, 1), as hot as it is", x.drift(0, 1, 1), 47);
        // Then 12345 becomes -740551042: 21468 is got, by 4 is 5367, and 247 is left: all but DOT 3.
        DUE.is("drift(0, 2, 0)", x.drift(0, 2, 0), 1 + 6);
        DUE.is("drift(12345, 1, 1)", x.drift(12345, 1, 1), 6 * 16 + 50 + 19 - 3);
        // Twice as much again: bit 31 of the seed goes nowhere.
        DUE.is("drift(12345 and bit 31, 1, 1)", x.drift(12345 + (1 << 31), 1, 1), 6 * 16 + 50 + 19 - 3);
        x = Due.of("early 30; early 30; lines 255;");
        DUE.is("drift(0, 1, 1), nothing is next", x.drift(0, 1, 1), 0);
        DUE.is("drift(1, 1, 1), of all", x.drift(1, 1, 1), 2 * 4 * 27);
        DUE.is("rule(2) stays", x.rule(2), 0);
        DUE.is("rule(6) stays", x.rule(6), 0);
        DUE.is("head(0, 3) stays", x.head(0, 3), 0);
        DUE.is("drift(5, 61, 0)", x.drift(5, 61, 0), BAD);
        DUE.is("drift(5, 0, 0)", x.drift(5, 0, 0), BAD);
        DUE.is("drift(5, 1, -1)", x.drift(5, 1, -1), BAD);
        DUE.is("drift(5, 1, 2)", x.drift(5, 1, 2), BAD);
        x = Due.of("plain 20; lines 1 2;");
        DUE.is("drift(7, 60, 0), the most rows", x.drift(7, 60, 0) >= 107 ? 1 : 0, 1);
    }

    public static void main(String[] args) {
        see();
        kinds();
        powers();
        ask();
        drift();
        DUE.close();
    }
}
