/** Collects the answers of a test class that are not as due, and tells them as the shared tests do. */
final class Due {
    static final int BEYOND = -1000001;
    static final int FULL = -1000002;
    static final int KIND = -1000003;
    static final int NONE = -1000004;
    static final int STATE = -1000005;
    static final int MISSING = -1000006;
    static final int SIZE = -1000007;

    private final String test;
    private int asked = 0;
    private int wrong = 0;

    Due(String test) {
        this.test = test;
    }

    void is(String call, long got, long want) {
        asked++;
        if (got != want) {
            wrong++;
            System.out.println(test + ": " + call + " answered " + got + ", due is " + want);
        }
    }

    void same(String what, String got, String want) {
        asked++;
        if (!got.equals(want)) {
            wrong++;
            System.out.println(test + ": " + what + "\n  is  " + got + "\n  due " + want);
        }
    }

    void end() {
        System.out.println(test + ": " + asked + " answers, " + wrong + " wrong");
        if (wrong != 0) {
            System.exit(1);
        }
    }

    /** Puts a text on the tape, four bytes a call where it can. */
    static void feed(RollTown x, String text) {
        for (int at = 0; at < text.length(); at += 4) {
            int n = Math.min(4, text.length() - at);
            int bytes = 0;
            for (int i = 0; i < n; i++) {
                bytes = bytes << 8 | text.charAt(at + i) & 255;
            }
            x.feed(bytes, n);
        }
    }

    static int text(RollTown x, String text) {
        feed(x, text);
        return x.text();
    }

    /**
     * All that can be seen without a change, in some 110 calls: what a refused call may not change.
     * Falls and grounds are seen through a THING of number 0, where there is one.
     */
    static String view(RollTown x) {
        StringBuilder b = new StringBuilder();
        for (int what = 0; what < 8; what++) {
            b.append(x.count(what)).append(' ');
        }
        for (int m = 0; m < 60; m += 7) {
            b.append(x.shut(m));
        }
        int things = x.count(1);
        for (int i = 0; i < things; i++) {
            b.append(" / ");
            for (int what = 0; what < 9; what++) {
                b.append(x.of(i, what)).append(' ');
            }
        }
        for (int c = 0; c < 31 && things > 0; c++) {
            b.append(x.told(0, 0, c)).append(',').append(x.told(0, 1, c)).append(' ');
        }
        return b.toString();
    }
}
