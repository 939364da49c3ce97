/** Promises 1 to 9: a new object, THE TAPE, the text and what it tells. */
public final class PromisesText {
    private static final int BAD = -1, STATE = -2, FULL = -3, NONE = -4;
    private static final Due DUE = new Due("PromisesText");

    private static void aNewObject() {
        HotDots x = new HotDots();
        int[] rules = {0, 0, 0, 20, 3, 0, 0, 0};
        for (int what = 0; what < rules.length; what++) {
            DUE.is("new: rule(" + what + ")", x.rule(what), rules[what]);
        }
        for (int k = 0; k < 4; k++) {
            DUE.is("new: lay(" + k + ", 0, 0)", x.lay(k, 0, 0), -11);
        }
        int[] counts = {0, 0, 0, NONE, 0, 0};
        for (int what = 0; what < counts.length; what++) {
            DUE.is("new: count(" + what + ")", x.count(what), counts[what]);
        }
        DUE.is("new: head(0, 0)", x.head(0, 0), BAD);
        DUE.is("new: line(0)", x.line(0), BAD);
        DUE.is("new: fault()", x.fault(), 0);
        DUE.is("new: torn()", x.torn(), 0);
        DUE.is("new: back(0)", x.back(0), STATE);
        DUE.is("new: back(1)", x.back(1), STATE);
    }

    private static void feedAndEnd() {
        HotDots x = new HotDots();
        DUE.is("feed(0)", x.feed(0), 1);
        DUE.is("feed(127)", x.feed(127), 2);
        DUE.is("feed(-1)", x.feed(-1), BAD);
        DUE.is("feed(128)", x.feed(128), BAD);
        DUE.is("count(2)", x.count(2), 2);
        for (int i = 3; i <= 160; i++) {
            DUE.is("feed(65)", x.feed(65), i);
        }
        DUE.is("feed(65), the 161st", x.feed(65), FULL);
        DUE.is("feed(128), the 161st", x.feed(128), BAD);
        DUE.is("count(2), full", x.count(2), 160);
        DUE.is("end(161)", x.end(161), BAD);
        DUE.is("end(-1)", x.end(-1), BAD);
        DUE.is("end(160)", x.end(160), 160);
        DUE.is("end(7)", x.end(7), 160);
        DUE.is("end(8)", x.end(8), BAD);
        DUE.is("feed(65), behind 7", x.feed(65), 8);
        DUE.is("end(0)", x.end(0), 8);
        DUE.is("end(0), empty", x.end(0), 0);
        // The first bytes are kept, not the last.
        Due.feed(x, "mark 5;cool 99;");
        DUE.is("end(7) of a text", x.end(7), 15);
        DUE.is("text() of what was kept", x.text(), 1);
        DUE.is("rule(3)", x.rule(3), 5);
    }

    private static void whatATextTells() {
        HotDots x = new HotDots();
        DUE.is("text", Due.take(x, "wary 30;mark 60;early 0;cool 9;spread 3;lines 0 255 007;saver 12;"), 7);
        int[] rules = {3, 3, 0, 60, 9, 3, 0, 0};
        for (int what = 0; what < rules.length; what++) {
            DUE.is("told: rule(" + what + ")", x.rule(what), rules[what]);
        }
        int[] heads = {2, 30, 3, 0, 1, 12};
        for (int h = 0; h < 3; h++) {
            DUE.is("told: KIND of " + h, x.head(h, 0), heads[2 * h]);
            DUE.is("told: POWER of " + h, x.head(h, 1), heads[2 * h + 1]);
        }
        DUE.is("line(0)", x.line(0), 0);
        DUE.is("line(1)", x.line(1), 255);
        DUE.is("line(2)", x.line(2), 7);
        DUE.is("line(3)", x.line(3), BAD);
        DUE.is("line(-1)", x.line(-1), BAD);
        DUE.is("mark 1", Due.take(x, "mark 1;cool 0;spread 0;"), 3);
        DUE.is("rule(3)", x.rule(3), 1);
        DUE.is("rule(4)", x.rule(4), 0);
        DUE.is("12 lines", Due.take(x, "  lines 1 2 3 4 5 6 7 8 9 10 11 12 ;  "), 1);
        DUE.is("line(11)", x.line(11), 12);
        DUE.is("the same kind thrice", Due.take(x, "plain1;plain2;plain3;"), 3);
        DUE.is("head(2, 1)", x.head(2, 1), 3);
    }

    /** A text in place of all there was; what was not named is as at first. */
    private static void allIsInPlace() {
        HotDots x = Due.of("plain 30; mark 10; cool 1; spread 1; lines 1 2;");
        x.burn(5);
        x.see(0, 0, 1);
        x.keep(0);
        x.keep(1);
        x.sheet(0, 0, 3);
        DUE.is("empty text", x.text(), 0);
        int[] rules = {0, 0, 0, 20, 3, 0, 0, 0};
        for (int what = 0; what < rules.length; what++) {
            DUE.is("empty: rule(" + what + ")", x.rule(what), rules[what]);
        }
        DUE.is("count(0)", x.count(0), 0);
        DUE.is("count(1)", x.count(1), 0);
        DUE.is("count(3)", x.count(3), 3);
        DUE.is("back(0)", x.back(0), STATE);
        DUE.is("back(1)", x.back(1), STATE);
        // What was tried BY ROWS leaves nothing behind in a HEAD that is told anew.
        x = Due.of("plain 30; mark 10; lines 1 2;");
        x.burn(3);
        x.see(0, 0, 1);
        x.runs(9, 0);
        DUE.is("plain again", Due.take(x, "plain 5;"), 1);
        DUE.is("count(0), told anew", x.count(0), 0);
        DUE.is("rule(2), told anew", x.rule(2), 0);
        DUE.is("head(0, 2)", x.head(0, 2), 0);
        DUE.is("head(0, 3)", x.head(0, 3), 0);
    }

    /** A text that is refused: the tape is empty, all else stays. */
    private static void allStays() {
        HotDots x = Due.of("plain 30; mark 10; lines 1 2;");
        x.burn(3);
        x.see(4, 0, 1);
        x.keep(1);
        int heats = x.head(0, 3);
        int wrong = x.rule(6);
        DUE.is("refused", Due.take(x, "early 1;mark 3;lines 5;cool 10;"), -10 - 28);
        DUE.is("fault()", x.fault(), 3);
        DUE.is("count(2)", x.count(2), 0);
        DUE.is("rule(0)", x.rule(0), 1);
        DUE.is("rule(1)", x.rule(1), 2);
        DUE.is("rule(2)", x.rule(2), 3);
        DUE.is("rule(3)", x.rule(3), 10);
        DUE.is("rule(6)", x.rule(6), wrong);
        DUE.is("head(0, 0)", x.head(0, 0), 0);
        DUE.is("head(0, 3)", x.head(0, 3), heats);
        DUE.is("line(0)", x.line(0), 1);
        DUE.is("count(0)", x.count(0), 1);
        DUE.is("count(1)", x.count(1), 1);
        DUE.is("fault() is still there", x.fault(), 3);
        DUE.is("taken", Due.take(x, "cool 1;"), 1);
        DUE.is("fault() is gone", x.fault(), 0);
    }

    private static void refused(String text, int fault, int place) {
        HotDots x = new HotDots();
        DUE.is("text() of <" + text + ">", Due.take(x, text), -10 - place);
        DUE.is("fault() of <" + text + ">", x.fault(), fault);
        DUE.is("count(2) behind <" + text + ">", x.count(2), 0);
    }

    private static void faults() {
        refused("plain 1;Mark", 1, 8);
        refused("plain 1,", 1, 7);
        refused("plain\t1;", 1, 5);
        refused("mark -1;", 1, 5);
        refused("mark 1000;", 1, 5);
        refused("mark 0001;", 1, 5);
        refused("  1234", 1, 2);
        refused("plain 1 #", 1, 8);
        refused("\0", 1, 0);
        refused("{", 1, 0);
        refused("`", 1, 0);
        refused("mark /", 1, 5);
        refused("zz", 2, 0);
        refused("xlain 1;", 2, 0);
        refused("mark :", 1, 5);
        refused("plan 1;", 2, 0);
        refused("plains 1;", 2, 0);
        refused("plai", 2, 0);
        refused("x", 2, 0);
        refused(" ;", 2, 1);
        refused("12", 2, 0);
        refused("mark 1;;", 2, 7);
        refused("mark 1;2", 2, 7);
        refused("plain ;", 2, 6);
        refused("plain mark;", 2, 6);
        refused("plain 1 2;", 2, 8);
        refused("plain 1 plain", 2, 8);
        refused("lines;", 2, 5);
        refused("lines 1 x", 2, 8);
        refused("lines 1 lines", 2, 8);
        refused("plain", 2, 5);
        refused("plain 1", 2, 7);
        refused("plain 1  ", 2, 9);
        refused("lines 1 2 ", 2, 10);
        refused("cool", 2, 4);
        refused("wary 31;", 3, 5);
        refused("saver 999;", 3, 6);
        refused("early 31 31", 3, 6);
        refused("mark 0;", 3, 5);
        refused("mark 61;", 3, 5);
        refused("cool 10;", 3, 5);
        refused("spread 4;", 3, 7);
        refused("lines 256;", 3, 6);
        refused("lines 1 2 256 1000;", 3, 10);
        refused("mark 1;mark 2;", 4, 7);
        refused("mark 1;mark", 4, 7);
        refused("cool 1;cool 99;", 4, 7);
        refused("spread 1;spread #", 4, 9);
        refused("lines 1;cool 1; lines 2;", 4, 16);
        refused("plain1;saver1;wary1;early", 5, 20);
        refused("plain1;plain1;plain1; plain99;", 5, 22);
        refused("lines 1 2 3 4 5 6 7 8 9 10 11 12 13;", 5, 33);
        refused("lines 1 2 3 4 5 6 7 8 9 10 11 12 999;", 5, 33);
        refused("lines 1 2 3 4 5 6 7 8 9 10 11 12 1000;", 1, 33);
        refused("lines 1 2 3 4 5 6 7 8 9 10 11 12 x;", 2, 33);
        refused("lines 1 2 3 4 5 6 7 8 9 10 11 12", 2, 32);
    }

    /** A tape that is full to its last byte. */
    private static void fullTape() {
        StringBuilder text = new StringBuilder("mark 7;");
        while (text.length() < 160) {
            text.append(' ');
        }
        HotDots x = new HotDots();
        DUE.is("160 bytes", Due.take(x, text.toString()), 1);
        text.setCharAt(159, '9');
        DUE.is("a number at the end", Due.take(x, text.toString()), -10 - 159);
        DUE.is("its fault", x.fault(), 2);
        text.setCharAt(159, ' ');
        text.setCharAt(6, ' ');
        DUE.is("the end", Due.take(x, text.toString()), -10 - 160);
        DUE.is("the end's fault", x.fault(), 2);
    }

    private static void whatIsAsked() {
        HotDots x = Due.of("plain 20; saver 10; lines 129 3;");
        x.warm(0, 2, 50);
        x.warm(1, 2, 9);
        x.warm(1, 7, 8);
        DUE.is("rule(7)", x.rule(7), 129);
        DUE.is("rule(-1)", x.rule(-1), BAD);
        DUE.is("rule(8)", x.rule(8), BAD);
        DUE.is("head(0, 3)", x.head(0, 3), 50);
        DUE.is("head(1, 3)", x.head(1, 3), 17);
        DUE.is("head(2, 0)", x.head(2, 0), BAD);
        DUE.is("head(-1, 0)", x.head(-1, 0), BAD);
        DUE.is("head(0, -1)", x.head(0, -1), BAD);
        DUE.is("head(0, 4)", x.head(0, 4), BAD);
        // The plain one: DOT 2 burns where nothing is WANTED. The saver one: 0 and 7 are not hot enough (10, 16).
        DUE.is("burn(1)", x.burn(1), 1 + 2);
        DUE.is("head(0, 2)", x.head(0, 2), 1);
        DUE.is("head(1, 2)", x.head(1, 2), 2);
        DUE.is("rule(6)", x.rule(6), 3);
        DUE.is("rule(2)", x.rule(2), 1);
        DUE.is("rule(7)", x.rule(7), 3);
        DUE.is("dot(0, 2, 0)", x.dot(0, 2, 0), 47);
        DUE.is("dot(1, 7, 0)", x.dot(1, 7, 0), 8 + 10 - 2 - 3);
        DUE.is("dot(-1, 0, 0)", x.dot(-1, 0, 0), BAD);
        DUE.is("dot(2, 0, 0)", x.dot(2, 0, 0), BAD);
        DUE.is("dot(0, -1, 0)", x.dot(0, -1, 0), BAD);
        DUE.is("dot(0, 8, 0)", x.dot(0, 8, 0), BAD);
        DUE.is("dot(0, 0, -1)", x.dot(0, 0, -1), BAD);
        DUE.is("dot(0, 0, 2)", x.dot(0, 0, 2), BAD);
    }

    private static void gets(HotDots x, String name, int... due) {
        for (int d = 0; d < 8; d++) {
            DUE.is(name + ": dot(0, " + d + ", 1)", x.dot(0, d, 1), due[d]);
        }
    }

    private static void whatADotGets() {
        HotDots x = Due.of("plain 20; lines 5 2;");
        x.warm(0, 0, 99);
        x.warm(0, 2, 43);
        gets(x, "plain", 20, 0, 20, 0, 0, 0, 0, 0);
        x.alter(0, 0, 1);
        gets(x, "saver", 0, 0, 10, 0, 0, 0, 0, 0);
        x.warm(0, 1, 40);
        gets(x, "saver, not WANTED and hot", 0, 0, 10, 0, 0, 0, 0, 0);
        x.alter(0, 0, 3);
        gets(x, "early", 20, 6, 20, 0, 0, 0, 0, 0);
        x.burn(1);
        gets(x, "early, the first line is the next", 6, 20, 6, 0, 0, 0, 0, 0);
        x = Due.of("wary 20; lines 255 7 5;");
        gets(x, "wary", 20, 18, 18, 18, 18, 18, 18, 20);
        x.warm(0, 3, 7);
        x.warm(0, 4, 76);
        gets(x, "wary and warm", 20, 18, 18, 17, 0, 18, 18, 20);
        x.alter(0, 1, 1);
        gets(x, "wary, nothing at least", 1, 0, 0, 0, 0, 0, 0, 1);
        x.cut(2);
        x.alter(0, 1, 20);
        x.set(0, 7);
        gets(x, "wary, three", 20, 18, 20, 0, 0, 0, 0, 0);
        x.set(0, 5);
        gets(x, "wary, not WANTED itself", 20, 0, 20, 0, 0, 0, 0, 0);
        x = Due.of("early 29; lines 1;");
        gets(x, "early, one line is its own next", 29, 0, 0, 0, 0, 0, 0, 0);
        x.add(254);
        gets(x, "early, a third down", 29, 9, 9, 9, 9, 9, 9, 9);
        x.cut(0);
        gets(x, "no lines", 0, 0, 0, 0, 0, 0, 0, 0);
    }

    public static void main(String[] args) {
        aNewObject();
        feedAndEnd();
        whatATextTells();
        allIsInPlace();
        allStays();
        faults();
        fullTape();
        whatIsAsked();
        whatADotGets();
        DUE.close();
    }
}
