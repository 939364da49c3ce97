/** What the tests of the project share: answers that are due, and texts fed letter by letter. */
final class Due {
    private final String test;
    private int wrong;

    Due(String test) {
        this.test = test;
    }

    void is(String call, long got, long want) {
        if (got != want) {
            wrong++;
            System.out.println(test + ": " + call + " answered " + got + ", due is " + want);
        }
    }

    /** Ends the test, with exit code 1 if an answer was not as due. */
    void close() {
        System.out.println(wrong == 0 ? "all answers are as due" : wrong + " answers are not as due");
        if (wrong != 0) {
            System.exit(1);
        }
    }

    static void feed(HotDots x, String letters) {
        for (int i = 0; i < letters.length(); i++) {
            x.feed(letters.charAt(i));
        }
    }

    /** Feeds a text and takes it: what text() answers. */
    static int take(HotDots x, String letters) {
        feed(x, letters);
        return x.text();
    }

    /** An object that was told a text which must be without fault. */
    static HotDots of(String letters) {
        HotDots x = new HotDots();
        int told = take(x, letters);
        if (told < 0) {
            throw new IllegalStateException("not taken: " + letters + " answered " + told);
        }
        return x;
    }
}
