/** Promises 34 to 40: images and sheets. */
public final class PromisesSheets {
    private static final int BAD = -1, STATE = -2, NONE = -4;
    private static final int NULL = 1, INDEX = 2, CAST = 3, SIZE = 4;
    private static final Due DUE = new Due("PromisesSheets");

    private static void keepAndBack() {
        HotDots x = Due.of("plain 20; early 7; mark 30; cool 2; spread 1; lines 1 2 4;");
        x.burn(4);
        x.see(3, 1, 9);
        int heats = x.head(0, 3);
        int wrong = x.head(0, 2);
        DUE.is("back(1), there is none", x.back(1), STATE);
        DUE.is("keep(1)", x.keep(1), 0);
        DUE.is("keep(1), again", x.keep(1), 1);
        DUE.is("back(0), there is none", x.back(0), STATE);
        DUE.is("count(1)", x.count(1), 1);
        x.alter(0, 0, 3);
        x.alter(1, 1, 30);
        x.tell(0, 5);
        x.tell(1, 9);
        x.tell(2, 3);
        x.set(0, 200);
        x.cut(1);
        x.burn(7);
        x.forget(0);
        x.feed(65);
        x.sheet(0, 1, 5);
        DUE.is("keep(0)", x.keep(0), 0);
        DUE.is("back(1)", x.back(1), 4);
        int[] rules = {2, 3, 4, 30, 2, 1};
        for (int what = 0; what < rules.length; what++) {
            DUE.is("back: rule(" + what + ")", x.rule(what), rules[what]);
        }
        int[] heads = {0, 20, wrong, heats};
        for (int what = 0; what < heads.length; what++) {
            DUE.is("back: head(0, " + what + ")", x.head(0, what), heads[what]);
        }
        DUE.is("head(1, 1)", x.head(1, 1), 7);
        DUE.is("line(0)", x.line(0), 1);
        DUE.is("line(2)", x.line(2), 4);
        DUE.is("count(0)", x.count(0), 1);
        DUE.is("count(2), the tape is no part of it", x.count(2), 1);
        DUE.is("count(3), sheets are no part of it", x.count(3), 5);
        DUE.is("count(1), images are no part of it", x.count(1), 2);
        DUE.is("back(0)", x.back(0), 11);
        DUE.is("rule(1)", x.rule(1), 1);
        DUE.is("line(0)", x.line(0), 200);
        DUE.is("count(0)", x.count(0), 0);
        DUE.is("back(1), as often as may be", x.back(1), 4);
        for (int k : new int[] {-1, 2}) {
            DUE.is("keep(" + k + ")", x.keep(k), BAD);
            DUE.is("back(" + k + ")", x.back(k), BAD);
        }
    }

    /** An image of an object with less in it, and of one with more. */
    private static void imagesByThemselves() {
        HotDots x = new HotDots();
        x.keep(0);
        x.add(7);
        x.burn(2);
        DUE.is("back(0), nothing", x.back(0), 0);
        DUE.is("rule(1)", x.rule(1), 0);
        x = Due.of("plain 20; lines 1;");
        x.see(0, 0, 2);
        x.keep(0);
        x.forget(0);
        x.see(0, 0, 1);
        DUE.is("powers(0) here", x.powers(0), (1 << 31) - (1 << 20));
        x.back(0);
        DUE.is("powers(0) as it was seen", x.powers(0), 0);
        x = Due.of("plain 20; plain 20; lines 1;");
        x.see(1, 1, 1);
        x.keep(0);
        x.forget(0);
        x.see(0, 0, 1);
        x.back(0);
        // 20 by 12 and 9 more, as seen of HEAD 1 in ROW 1.
        DUE.is("powers(1), of whom and when it was seen", x.powers(1), Integer.MAX_VALUE - ((1 << 12) - 1));
        DUE.is("powers(0), of whom it was not seen", x.powers(0), Integer.MAX_VALUE);
        x.warm(0, 0, 77);
        x.back(0);
        DUE.is("dot(0, 0, 0), the image has its own", x.dot(0, 0, 0), 0);
    }

    private static void sheet() {
        HotDots x = new HotDots();
        int[][] bad = {{-1, 0, 1}, {4, 0, 1}, {0, -1, 1}, {0, 3, 1}, {0, 0, 41}, {0, 0, Integer.MAX_VALUE},
            {4, 0, -1}, {0, 3, -1}};
        for (int[] b : bad) {
            DUE.is("sheet(" + b[0] + ", " + b[1] + ", " + b[2] + ")", x.sheet(b[0], b[1], b[2]), BAD);
        }
        DUE.is("sheet(0, 0, -1)", x.sheet(0, 0, -1), -10 - SIZE);
        DUE.is("sheet(3, 2, the least)", x.sheet(3, 2, Integer.MIN_VALUE), -10 - SIZE);
        DUE.is("count(3), still nothing", x.count(3), NONE);
        DUE.is("sheet(0, 2, 40)", x.sheet(0, 2, 40), 1);
        DUE.is("count(3)", x.count(3), 40);
        DUE.is("lay(0, 39, 5)", x.lay(0, 39, 5), 1);
        DUE.is("sheet(0, 2, -5)", x.sheet(0, 2, -5), -10 - SIZE);
        DUE.is("count(3), as it was", x.count(3), 40);
        DUE.is("sheet(0, 2, 0)", x.sheet(0, 2, 0), 1);
        DUE.is("count(3), without cells", x.count(3), 0);
        DUE.is("lay(0, 0, 5)", x.lay(0, 0, 5), -10 - INDEX);
        // A new row is 0 again.
        x.add(9);
        x.sheet(0, 2, 2);
        x.lay(0, 0, 1);
        x.lay(0, 1, 33);
        DUE.is("sheet(0, 2, 2), anew", x.sheet(0, 2, 2), 1);
        DUE.is("read(0, 2, 0, 1)", x.read(0, 2, 0, 1), 1);
        DUE.is("line(0)", x.line(0), 0);
        DUE.is("sheet(3, 1, 1)", x.sheet(3, 1, 1), 1);
        DUE.is("lay(3, 0, 1)", x.lay(3, 0, 1), 1);
        DUE.is("lay(2, 0, 1), nothing there", x.lay(2, 0, 1), -10 - NULL);
    }

    /** What is laid and read again as a LINE. */
    private static void laid(int lane, int v, int due, int line) {
        HotDots x = new HotDots();
        x.add(99);
        x.sheet(1, lane, 2);
        DUE.is("lay(1, 1, " + v + ") by lane " + lane, x.lay(1, 1, v), 1);
        DUE.is("read of " + v + " by lane " + lane, x.read(1, lane, 0, 1), due);
        DUE.is("line of " + v + " by lane " + lane, x.line(0), line);
    }

    private static void lay() {
        laid(0, 127, 1, 127);
        laid(0, 128, -20, 99);
        laid(0, 200, -20, 99);
        laid(0, 300, 1, 44);
        laid(0, -250, 1, 6);
        laid(1, 255, 1, 255);
        laid(1, 256, -20, 99);
        laid(1, 65541, 1, 5);
        laid(1, 32768, -20, 99);
        laid(2, 255, 1, 255);
        laid(2, 65541, -20, 99);
        laid(2, -1, -20, 99);
        HotDots x = new HotDots();
        x.sheet(0, 0, 3);
        DUE.is("lay(-1, 0, 0)", x.lay(-1, 0, 0), BAD);
        DUE.is("lay(4, 0, 0)", x.lay(4, 0, 0), BAD);
        DUE.is("lay(0, 3, 0)", x.lay(0, 3, 0), -10 - INDEX);
        DUE.is("lay(0, -1, 0)", x.lay(0, -1, 0), -10 - INDEX);
        DUE.is("lay(0, 2, 0)", x.lay(0, 2, 0), 1);
        DUE.is("lay(1, -1, 0)", x.lay(1, -1, 0), -10 - NULL);
    }

    private static HotDots withCells(int... cells) {
        HotDots x = Due.of("lines 10 20 30;");
        x.sheet(0, 2, cells.length);
        for (int i = 0; i < cells.length; i++) {
            x.lay(0, i, cells[i]);
        }
        return x;
    }

    private static void lines(String name, HotDots x, int... due) {
        for (int i = 0; i < due.length; i++) {
            DUE.is(name + ": line(" + i + ")", x.line(i), due[i]);
        }
    }

    private static void read() {
        HotDots x = withCells(2, 1, 0, 255, 2, 3);
        DUE.is("read(0, 2, 2, 1)", x.read(0, 2, 2, 1), 1);
        lines("from cell 2", x, 255, 20, 30);
        DUE.is("read(0, 2, 0, 3)", x.read(0, 2, 0, 3), 3);
        lines("one behind another", x, 255, 20, 3);
        DUE.is("torn()", x.torn(), 0);
        DUE.is("read(0, 2, 3, 2), the second is not whole", x.read(0, 2, 3, 1), -20);
        DUE.is("read(0, 2, 4, 20)", x.read(0, 2, 4, 20), 1);
        DUE.is("torn()", x.torn(), INDEX);
        DUE.is("read(0, 2, 5, 1), half", x.read(0, 2, 5, 1), 0);
        DUE.is("torn()", x.torn(), INDEX);
        x = withCells(1, 7, 99);
        DUE.is("half ahead of set()", x.read(0, 2, 0, 2), 1);
        DUE.is("torn()", x.torn(), INDEX);
        lines("those that were whole ahead", x, 10, 7, 30);
        x = withCells(1, 7, 3, 1, 0, 256);
        DUE.is("the second is refused", x.read(0, 2, 0, 3), -21);
        lines("none came", x, 10, 20, 30);
        DUE.is("the third is refused", x.read(0, 2, 4, 1), -20);
        x = withCells(0, 1, 1, 2, -1, 3);
        DUE.is("no such line", x.read(0, 2, 0, 20), -22);
        lines("none came", x, 10, 20, 30);
        DUE.is("the first two", x.read(0, 2, 0, 2), 2);
        lines("two came", x, 1, 2, 30);
        int[] cells = new int[40];
        cells[39] = 77;
        x = withCells(cells);
        DUE.is("as many as may be", x.read(0, 2, 0, 20), 20);
        lines("the last one", x, 77, 20, 30);
    }

    private static void torn() {
        HotDots x = withCells(0, 1);
        DUE.is("another lane", x.read(0, 1, 0, 1), 0);
        DUE.is("torn()", x.torn(), CAST);
        DUE.is("another lane, no such cell", x.read(0, 0, 90, 1), 0);
        DUE.is("torn()", x.torn(), CAST);
        DUE.is("nothing", x.read(1, 1, 90, 1), 0);
        DUE.is("torn()", x.torn(), NULL);
        for (int f : new int[] {-1, 2, 40, Integer.MAX_VALUE, Integer.MIN_VALUE}) {
            DUE.is("none of it", x.read(0, 2, 0, 0), 0);
            DUE.is("torn()", x.torn(), 0);
            DUE.is("from cell " + f, x.read(0, 2, f, 20), 0);
            DUE.is("torn()", x.torn(), INDEX);
        }
        int[][] bad = {{-1, 2, 0, 1}, {4, 2, 0, 1}, {0, -1, 0, 1}, {0, 3, 0, 1}, {0, 2, 0, -1}, {0, 2, 0, 21}};
        for (int[] b : bad) {
            DUE.is("read(" + b[0] + ", " + b[1] + ", " + b[2] + ", " + b[3] + ")", x.read(b[0], b[1], b[2], b[3]), BAD);
            DUE.is("torn(), as it was", x.torn(), INDEX);
        }
        x.lay(0, 0, 3);
        DUE.is("refused", x.read(0, 2, 0, 1), -20);
        DUE.is("torn(), as it was", x.torn(), INDEX);
        x.lay(0, 0, 2);
        DUE.is("whole", x.read(0, 2, 0, 1), 1);
        DUE.is("torn(), none", x.torn(), 0);
        DUE.is("line(2)", x.line(2), 1);
    }

    private static void count() {
        HotDots x = Due.of("plain 20; wary 7; lines 255 1 128;");
        x.feed(1);
        x.feed(2);
        x.see(0, 0, 0);
        x.keep(0);
        x.sheet(0, 0, 9);
        int[] due = {1, 1, 2, 9, 27, 10};
        for (int what = 0; what < due.length; what++) {
            DUE.is("count(" + what + ")", x.count(what), due[what]);
        }
        x.keep(1);
        DUE.is("count(1), both", x.count(1), 2);
        x.cut(2);
        DUE.is("count(5), of the first two", x.count(5), 9);
        DUE.is("count(-1)", x.count(-1), BAD);
        DUE.is("count(6)", x.count(6), BAD);
    }

    public static void main(String[] args) {
        keepAndBack();
        imagesByThemselves();
        sheet();
        lay();
        read();
        torn();
        count();
        DUE.close();
    }
}
