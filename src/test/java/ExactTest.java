/** What can be told of TAGS alone, and what is likely, exactly: promises 20, 21, 26 to 32, 36. */
public final class ExactTest {
    private static final Due DUE = new Due();
    private static final int NONE = -1;

    public static void main(String[] args) {
        channels();
        cover();
        ways();
        waysByTrying();
        hope();
        best();
        guess();
        least();
        sharp();
        values();
        apart();
        DUE.end();
    }

    private static TagReaders withReaches(int... reaches) {
        TagReaders x = new TagReaders();
        for (int i = 0; i < reaches.length; i++) {
            x.tag(i, i << 16, reaches[i]);
        }
        return x;
    }

    private static TagReaders withMemories(int... memories) {
        TagReaders x = new TagReaders();
        x.power(0, true);
        for (int i = 0; i < memories.length; i++) {
            x.tag(i, memories[i], 1);
        }
        return x;
    }

    private static void plan(String name, TagReaders x, int a, int b, int c, int d, int number) {
        DUE.part("promise 20, " + name);
        int[] due = {a, b, c, d, number};
        for (int what = 0; what < 5; what++) {
            DUE.is("channels(" + what + ")", x.channels(what), due[what]);
        }
    }

    private static void channels() {
        plan("no TAGS", withReaches(), 0, 0, 0, 0, 1);
        plan("each alone", withReaches(1, 2, 4, 8, 0), 0, 0, 0, 0, 1);
        plan("all one TAG", withReaches(15), 0, 1, 2, 3, 4);
        plan("a row", withReaches(3, 6, 12), 0, 1, 0, 1, 2);
        plan("a ring", withReaches(3, 6, 12, 9), 0, 1, 0, 1, 2);
        plan("0 and 3", withReaches(9), 0, 0, 0, 1, 2);
        plan("three", withReaches(14, 3), 0, 1, 0, 2, 3);
        plan("READER 0's first", withReaches(7, 8), 0, 1, 2, 0, 3);
        TagReaders x = withReaches(15, 3);
        x.gone(0);
        plan("one went", x, 0, 1, 0, 0, 2);
        DUE.is("channels(5)", x.channels(5), NONE);
        DUE.is("channels(-1)", x.channels(-1), NONE);
    }

    private static void cover() {
        DUE.part("promise 21");
        DUE.is("none", withReaches().cover(), 0);
        DUE.is("reached by none", withReaches(0, 0).cover(), 0);
        DUE.is("one", withReaches(8, 0).cover(), 8);
        DUE.is("the least set of one", withReaches(12, 14).cover(), 4);
        DUE.is("all four", withReaches(1, 2, 4, 8).cover(), 15);
        DUE.is("the fewest", withReaches(3, 5, 9, 6).cover(), 3);
        DUE.is("not the least number", withReaches(9, 10, 12).cover(), 8);
        DUE.is("ON or not", withReaches(6).cover(), 2);
        TagReaders x = withReaches(1, 2);
        x.gone(0);
        DUE.is("that are there", x.cover(), 2);
    }

    private static void ways() {
        DUE.part("promise 26");
        TagReaders x = new TagReaders();
        DUE.is("ways(0, 4, 0)", x.ways(0, 4, 0), 1);
        DUE.is("ways(1, 0, 1)", x.ways(1, 0, 1), 1);
        DUE.is("ways(1, 0, 0)", x.ways(1, 0, 0), 0);
        DUE.is("ways(12, 0, 0)", x.ways(12, 0, 0), 1);
        DUE.is("ways(12, 0, 12)", x.ways(12, 0, 12), 0);
        long inRow = 1;
        for (int i = 0; i < 12; i++) {
            inRow *= 16 - i;
        }
        DUE.is("ways(12, 4, 12)", x.ways(12, 4, 12), inRow);
        DUE.is("ways(12, 4, 11)", x.ways(12, 4, 11), 0);
        int[][] wrong = {{13, 0, 0}, {-1, 0, 0}, {1, 5, 0}, {1, -1, 0}, {1, 0, 2}, {1, 0, -1}};
        for (int[] a : wrong) {
            DUE.is("ways(" + a[0] + ", " + a[1] + ", " + a[2] + ")", x.ways(a[0], a[1], a[2]), NONE);
        }
        for (int n = 0; n <= 12; n++) {
            for (int q = 0; q <= 4; q++) {
                long sum = 0;
                for (int s = 0; s <= n; s++) {
                    sum += x.ways(n, q, s);
                }
                DUE.is("all ways of " + n + ", " + q, sum, 1L << q * n);
            }
        }
    }

    private static void waysByTrying() {
        DUE.part("promise 26, by trying");
        TagReaders x = new TagReaders();
        for (int n = 0; n <= 6; n++) {
            for (int q = 0; q <= 2; q++) {
                long[] singles = new long[n + 1];
                for (int way = 0; way < 1 << q * n; way++) {
                    int[] in = new int[1 << q];
                    for (int i = 0; i < n; i++) {
                        in[way >> q * i & (1 << q) - 1]++;
                    }
                    int s = 0;
                    for (int number : in) {
                        s += number == 1 ? 1 : 0;
                    }
                    singles[s]++;
                }
                for (int s = 0; s <= n; s++) {
                    DUE.is("ways(" + n + ", " + q + ", " + s + ")", x.ways(n, q, s), singles[s]);
                }
            }
        }
    }

    private static void hope() {
        DUE.part("promise 27");
        TagReaders x = new TagReaders();
        long[][] due = {{0, 0, 0, 1}, {1, 0, 1, 1}, {2, 0, 0, 1}, {1, 4, 1, 1}, {2, 2, 3, 2}, {4, 1, 1, 2}, {3, 1, 3, 4},
            {12, 1, 3, 512}, {12, 0, 0, 1}, {2, 4, 15, 8}, {3, 4, 675, 256}};
        for (long[] d : due) {
            String call = "hope(" + d[0] + ", " + d[1] + ", ";
            DUE.is(call + "0)", x.hope((int) d[0], (int) d[1], 0), d[2]);
            DUE.is(call + "1)", x.hope((int) d[0], (int) d[1], 1), d[3]);
        }
        int[][] wrong = {{13, 0, 0}, {-1, 0, 0}, {1, 5, 0}, {1, -1, 0}, {1, 0, 2}, {1, 0, -1}};
        for (int[] a : wrong) {
            DUE.is("hope(" + a[0] + ", " + a[1] + ", " + a[2] + ")", x.hope(a[0], a[1], a[2]), NONE);
        }
    }

    private static void best() {
        DUE.part("promise 28");
        TagReaders x = new TagReaders();
        // By HOPE by L: n (L - 1)^(n - 1) by L^n; of 3: 3 by 8, 27 by 64: q 2.
        int[] due = {NONE, 0, 1, 2, 2, 2, 3, 3, 3, 3, 3, 3, 4, NONE};
        for (int n = 0; n < due.length; n++) {
            DUE.is("best(" + n + ")", x.best(n), due[n]);
        }
        DUE.is("best(-1)", x.best(-1), NONE);
    }

    private static void guess() {
        DUE.part("promise 29");
        TagReaders x = new TagReaders();
        DUE.is("guess(1, 0, 0)", x.guess(1, 0, 0), 0);
        DUE.is("guess(0, 1, 0)", x.guess(0, 1, 0), 1);
        DUE.is("guess(0, 0, 1): all alike, the least", x.guess(0, 0, 1), 2);
        DUE.is("guess(16, 0, 0)", x.guess(16, 0, 0), 0);
        DUE.is("guess(15, 1, 0)", x.guess(15, 1, 0), 1);
        DUE.is("guess(4, 12, 0)", x.guess(4, 12, 0), 12);
        DUE.is("guess(3, 13, 0)", x.guess(3, 13, 0), NONE);
        DUE.is("guess(0, 0, 2): 4 in 6 of 16, 5 in 20 of 32", x.guess(0, 0, 2), 12);
        DUE.is("guess(1, 0, 1): 2 in 2 of 4", x.guess(1, 0, 1), 2);
        DUE.is("guess(10, 0, 6)", x.guess(10, 0, 6), 12);
        DUE.is("guess(9, 0, 7)", x.guess(9, 0, 7), NONE);
        DUE.is("guess(0, 0, 16)", x.guess(0, 0, 16), NONE);
        int[][] wrong = {{0, 0, 0}, {1, 1, 1}, {-1, 1, 1}, {1, -1, 1}, {1, 1, -1}, {17, 0, 0}, {16, 16, 0}, {16, 8, 8}, {16, 4, 12},
            {5, 0, 0},
            {Integer.MAX_VALUE, Integer.MAX_VALUE, 3}, {Integer.MIN_VALUE, Integer.MIN_VALUE, 1}, {-2, 2, 2}};
        for (int[] a : wrong) {
            DUE.is("guess(" + a[0] + ", " + a[1] + ", " + a[2] + ")", x.guess(a[0], a[1], a[2]), NONE);
        }
    }

    private static void span(TagReaders x, boolean isLeast, int n, int p, int third) {
        int[] due = {n, p, third};
        for (int what = 0; what < 3; what++) {
            DUE.is((isLeast ? "least(" : "sharp(") + what + ")", isLeast ? x.least(what) : x.sharp(what), due[what]);
        }
    }

    private static void least() {
        DUE.part("promise 30");
        TagReaders x = withMemories(0x00010000, 0x00020000, 0x80030000);
        DUE.is("none is SELECTED", x.least(0), NONE);
        x.select(0, 4, 1, 0, 0, 0);
        span(x, true, 0, 0, 0);
        x.select(0, 4, 0, 0, 1, 1);
        span(x, true, 1, 0, 1);
        x.select(0, 4, 0, 0, 1, 0);
        span(x, true, 1, 0, 0);
        x.select(0, 4, 0, 15, 1, 0);
        span(x, true, 1, 15, 0);
        x.select(0, 4, 0, 0, 16, 1);
        span(x, true, 1, 14, 0);
        DUE.is("least(3)", x.least(3), NONE);
        DUE.is("least(-1)", x.least(-1), NONE);
        x.gone(0);
        DUE.is("the SELECTED one went", x.least(0), NONE);

        DUE.part("promise 30, all of the ID");
        TagReaders y = withMemories(0xFFFF8000, 0xFFFE8000, 0x7FFF8000);
        y.select(0, 4, 0, 0, 32, 0xFFFF8000);
        span(y, true, 16, 0, 0xFFFF);

        DUE.part("promise 30, bits 2 to 31");
        TagReaders w = withMemories(0x00000006, 0x40000006, 0x80000007, 0x20000006);
        w.select(0, 4, 0, 2, 30, 6);
        DUE.is("two are SELECTED", w.look(7), 2);
        span(w, true, 30, 2, 6);

        DUE.part("promise 30, no span");
        TagReaders z = withMemories(0x00000000, 0x00010000, 0x00020000, 0x00030000);
        z.select(0, 4, 1, 14, 2, 1);
        z.select(0, 4, 1, 14, 2, 2);
        DUE.is("no span", z.least(0), NONE);
        DUE.is("no span", z.least(2), NONE);
    }

    private static void sharp() {
        DUE.part("promise 31");
        DUE.is("none", withMemories().sharp(0), NONE);
        DUE.is("none", withMemories().sharp(2), NONE);
        span(withMemories(0x12340000), false, 0, 0, 1);
        span(withMemories(0x00000000, 0x00010000), false, 1, 15, 2);
        span(withMemories(0x00000001, 0x00010000), false, 1, 15, 2);
        span(withMemories(0x00000000, 0x80010000), false, 1, 0, 2);
        span(withMemories(0x00000000, 0x00010001, 0x00020003, 0x00030002), false, 2, 14, 4);
        span(withMemories(0x00000000, 0x00010003, 0x80000002), false, 2, 30, 3);
        TagReaders x = withMemories(0x00000000, 0x00010000, 0x80000000);
        span(x, false, 16, 0, 3);
        x.gone(2);
        span(x, false, 1, 15, 2);
        DUE.is("sharp(3)", x.sharp(3), NONE);
        DUE.is("sharp(-1)", x.sharp(-1), NONE);
    }

    private static void values() {
        DUE.part("promise 32");
        TagReaders x = withMemories(0x00000000, 0x00010000, 0x80000003, 0x80010003);
        DUE.is("values(0, 1)", x.values(0, 1), 2);
        DUE.is("values(0, 16)", x.values(0, 16), 4);
        DUE.is("values(0, 32)", x.values(0, 32), 4);
        DUE.is("values(1, 31)", x.values(1, 31), 4);
        DUE.is("values(31, 1)", x.values(31, 1), 2);
        DUE.is("values(1, 14)", x.values(1, 14), 1);
        x.gone(0);
        x.gone(1);
        DUE.is("values(0, 1)", x.values(0, 1), 1);
        DUE.is("of none", withMemories().values(0, 32), 0);
        int[][] wrong = {{0, 0}, {0, 33}, {1, 32}, {32, 1}, {-1, 1}, {32, 0}, {0, -1}, {Integer.MAX_VALUE, 5}, {31, 2},
            {5, Integer.MAX_VALUE}};
        for (int[] a : wrong) {
            DUE.is("values(" + a[0] + ", " + a[1] + ")", x.values(a[0], a[1]), NONE);
        }
    }

    private static void apart() {
        DUE.part("promise 36");
        TagReaders x = withMemories(0x00000000, 0x80000000, 0x00010000, 0x00018000);
        x.tag(4, 0x00020000, 0);
        DUE.is("apart(0, 1)", x.apart(0, 1), 0);
        DUE.is("apart(1, 0)", x.apart(1, 0), 0);
        DUE.is("the ID is another one's", x.apart(2, 3), NONE);
        DUE.is("apart(0, 2)", x.apart(0, 2), 15);
        DUE.is("apart(2, 4)", x.apart(2, 4), 14);
        DUE.is("itself", x.apart(1, 1), NONE);
        int[][] wrong = {{0, 5}, {5, 0}, {24, 0}, {0, -1}};
        for (int[] a : wrong) {
            DUE.is("apart(" + a[0] + ", " + a[1] + ")", x.apart(a[0], a[1]), NONE);
        }
    }
}
