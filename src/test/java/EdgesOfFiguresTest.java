import java.util.Arrays;

/** The edges that Terms 4 name, with promises 20, 21, 26 to 32, 37, 40: a sentence a method. */
public final class EdgesOfFiguresTest {
    private static final Due DUE = new Due();
    private static final Edge EDGE = new Edge(DUE);
    private static final int NONE = Edge.NONE;
    private static final int MOST = Edge.MOST;
    private static final int LEAST = Edge.LEAST;

    public static void main(String[] args) {
        queriesOfOneAtMost();
        queriesElse();
        channelsOfNobody();
        channelsOfAll();
        channelsTheFirst();
        channelsPromise();
        coverOfNobody();
        coverOfAll();
        coverTheLeast();
        waysBounds();
        waysOfNone();
        waysOfMost();
        waysOfMoreThanSlots();
        hopeBounds();
        hopeOfNothing();
        hopeInLowestTerms();
        bestBounds();
        bestOfEach();
        guessOfNone();
        guessTheLeast();
        guessOfTwelveAtMost();
        guessOfNoSuchNumber();
        leastOfNone();
        leastOfAll();
        leastOfOne();
        leastOfMany();
        leastThereIsNone();
        leastTheLeastP();
        sharpOfNone();
        sharpOfOne();
        sharpOfAll();
        sharpTheLeastP();
        valuesBounds();
        valuesOfNoneAndAll();
        logIsEmpty();
        logIsFull();
        logLines();
        logPromise();
        imageIsNone();
        imageMoreThanOnce();
        imageOfNew();
        imageIsAll();
        imageOfReaders();
        imageInTheMidstOfATree();
        imageOfAFullLog();
        DUE.end();
    }

    private static void queriesOfOneAtMost() {
        DUE.part("Terms 4: QUERIES: 1, if it has one at most (or none)");
        TagReaders x = Edge.on(1);
        DUE.is("none", x.queries(0, 0, 0, 0), 1);
        x.tag(0, -1, 1);
        DUE.is("one", x.queries(0, 0, 0, 0), 1);
        DUE.is("none of B", x.queries(0, 0, 1, 0), 1);
        DUE.is("none SELECTED", x.queries(0, 0, 0, 1), 1);
    }

    private static void queriesElse() {
        DUE.part("Terms 4: QUERIES: else 1 and those of the TAGS whose next bit is 0, and of those whose next bit is 1");
        for (int bit = 0; bit < 16; bit++) {
            TagReaders x = Edge.with(1, 0, 32768 >> bit);
            DUE.is("two apart by bit " + bit, x.queries(0, 0, 0, 0), 2 * bit + 3);
            x.begin(0, 0, 0, 0, Edge.TREE);
            DUE.is("a TREE takes as many", x.lasts(0), 2 * bit + 3);
            TagReaders y = Edge.with(1, 65535, 65535 - (32768 >> bit));
            DUE.is("two others apart by bit " + bit, y.queries(0, 0, 0, 0), 2 * bit + 3);
        }
        // 0 .. 23 by 16 bits: 11 bits alike, then 1, 2, 3, 6 and 12 CLASHES, of 24 SINGLE and one EMPTY.
        DUE.is("24 TAGS", Edge.full(1).queries(0, 0, 0, 0), 2 * 11 + 49);
    }

    private static void plan(TagReaders x, int... due) {
        for (int what = 0; what < due.length; what++) {
            DUE.is("channels(" + what + ")", x.channels(what), due[what]);
        }
    }

    private static TagReaders reaches(int... reaches) {
        TagReaders x = new TagReaders();
        for (int i = 0; i < reaches.length; i++) {
            x.tag(i, Edge.memory(i, 0), reaches[i]);
        }
        return x;
    }

    private static void channelsOfNobody() {
        DUE.part("Terms 4: FEWEST CHANNELS: no two that both reach a TAG: there are none such");
        plan(reaches(), 0, 0, 0, 0, 1);
        plan(reaches(0, 1, 2, 4, 8), 0, 0, 0, 0, 1);
        TagReaders x = reaches(3);
        x.gone(0);
        plan(x, 0, 0, 0, 0, 1);
    }

    private static void channelsOfAll() {
        DUE.part("Terms 4: FEWEST CHANNELS: all four of one TAG, or of six");
        plan(reaches(15), 0, 1, 2, 3, 4);
        plan(reaches(3, 5, 9, 6, 10, 12), 0, 1, 2, 3, 4);
        // All pairs but 2 and 3; all but 0 and 1.
        plan(reaches(3, 5, 9, 6, 10), 0, 1, 2, 2, 3);
        plan(reaches(5, 9, 6, 10, 12), 0, 0, 1, 2, 3);
    }

    private static void channelsTheFirst() {
        DUE.part("Terms 4: of those with the least greatest CHANNEL the first, READER 0's first");
        plan(reaches(3), 0, 1, 0, 0, 2);
        plan(reaches(5), 0, 0, 1, 0, 2);
        plan(reaches(9), 0, 0, 0, 1, 2);
        plan(reaches(6), 0, 0, 1, 0, 2);
        plan(reaches(10), 0, 0, 0, 1, 2);
        plan(reaches(12), 0, 0, 0, 1, 2);
        plan(reaches(3, 12), 0, 1, 0, 1, 2);
        plan(reaches(9, 6), 0, 0, 1, 1, 2);
        // 0 has 1, 2 and 3 beside it; 3 has 0, 1 and 2.
        plan(reaches(3, 5, 9), 0, 1, 1, 1, 2);
        plan(reaches(9, 10, 12), 0, 0, 0, 1, 2);
        plan(reaches(7), 0, 1, 2, 0, 3);
        plan(reaches(14), 0, 0, 1, 2, 3);
    }

    private static void channelsPromise() {
        DUE.part("promise 20: NONE for another what");
        TagReaders x = reaches(15);
        for (int what : new int[] {-1, 5, LEAST, MOST}) {
            DUE.is("channels(" + what + ")", x.channels(what), NONE);
        }
        DUE.is("they are not told to the READERS", x.reader(3, 17), 0);
    }

    private static void coverOfNobody() {
        DUE.part("Terms 4: COVER: all TAGS that any READER reaches: none");
        DUE.is("no TAGS", reaches().cover(), 0);
        DUE.is("reached by none", reaches(0, 0, 0).cover(), 0);
        TagReaders x = reaches(0, 15);
        DUE.is("one", x.cover(), 1);
        x.gone(1);
        DUE.is("it went", x.cover(), 0);
    }

    private static void coverOfAll() {
        DUE.part("Terms 4: COVER: all four");
        DUE.is("each alone", reaches(1, 2, 4, 8).cover(), 15);
        DUE.is("and others", reaches(1, 2, 4, 8, 15, 0, 3).cover(), 15);
        DUE.is("three", reaches(1, 2, 12).cover(), 7);
        DUE.is("24 TAGS by one", Edge.full(8).cover(), 8);
    }

    private static void coverTheLeast() {
        DUE.part("Terms 4: COVER: the fewest READERS (of several the least set as a number)");
        DUE.is("1 or 2", reaches(3).cover(), 1);
        DUE.is("4 or 8", reaches(12).cover(), 4);
        DUE.is("8 is fewer than 3", reaches(9, 10).cover(), 8);
        DUE.is("two of several", reaches(3, 12).cover(), 5);
        DUE.is("two of several", reaches(5, 10).cover(), 3);
        DUE.is("two of several", reaches(3, 5, 6).cover(), 3);
        DUE.is("8 and one more", reaches(8, 6).cover(), 10);
    }

    private static void waysBounds() {
        DUE.part("promise 26: WAYS; NONE if n, q, s (0 .. n) can't be");
        TagReaders x = new TagReaders();
        int[][] wrong = {{-1, 0, 0}, {13, 0, 0}, {-1, 0, -1}, {0, -1, 0}, {0, 5, 0}, {0, 0, -1}, {0, 0, 1}, {12, 4, 13},
            {12, 4, -1}, {12, 5, 12}, {12, -1, 12}, {13, 4, 12}, {LEAST, 0, LEAST}, {MOST, 0, 0}, {0, LEAST, 0}, {0, MOST, 0},
            {0, 0, LEAST}, {0, 0, MOST}, {5, 2, 6}};
        for (int[] a : wrong) {
            EDGE.refused(x, "ways(" + a[0] + ", " + a[1] + ", " + a[2] + ")", () -> x.ways(a[0], a[1], a[2]), NONE);
        }
    }

    private static void waysOfNone() {
        DUE.part("Terms 4: WAYS of 0 TAGS: one way, in which no SLOT has one TAG");
        TagReaders x = new TagReaders();
        for (int q = 0; q <= 4; q++) {
            DUE.is("ways(0, " + q + ", 0)", x.ways(0, q, 0), 1);
            DUE.is("ways(1, " + q + ", 0)", x.ways(1, q, 0), 0);
            DUE.is("ways(1, " + q + ", 1)", x.ways(1, q, 1), 1 << q);
            DUE.is("ways(2, " + q + ", 0)", x.ways(2, q, 0), 1 << q);
            DUE.is("ways(2, " + q + ", 1)", x.ways(2, q, 1), 0);
            DUE.is("ways(2, " + q + ", 2)", x.ways(2, q, 2), (1 << q) * ((1 << q) - 1));
        }
    }

    private static void waysOfMost() {
        DUE.part("Terms 4: WAYS of 12 TAGS in 16 SLOTS");
        TagReaders x = new TagReaders();
        // All alone: 16 times 15 times .. 5.
        DUE.is("s 12", x.ways(12, 4, 12), 871782912000L);
        // 11 alone can't be: where is the last one?
        DUE.is("s 11", x.ways(12, 4, 11), 0);
        // 10 alone: which two are together, 66; 11 SLOTS in a row of 16: 16 .. 6.
        DUE.is("s 10", x.ways(12, 4, 10), 66L * 174356582400L);
        long sum = 0;
        for (int s = 0; s <= 12; s++) {
            sum += x.ways(12, 4, s);
        }
        DUE.is("all: 16 to the 12", sum, 281474976710656L);
        // One SLOT: all in it.
        DUE.is("ways(12, 0, 0)", x.ways(12, 0, 0), 1);
        // Two SLOTS: none alone but 1 or 11 in the first: 4096 - 24.
        DUE.is("ways(12, 1, 0)", x.ways(12, 1, 0), 4072);
        DUE.is("ways(12, 1, 1)", x.ways(12, 1, 1), 24);
    }

    private static void waysOfMoreThanSlots() {
        DUE.part("Terms 4: WAYS of more s than there are SLOTS: none");
        TagReaders x = new TagReaders();
        for (int q = 0; q <= 3; q++) {
            for (int s = (1 << q) + 1; s <= 12; s++) {
                DUE.is("ways(12, " + q + ", " + s + ")", x.ways(12, q, s), 0);
                DUE.is("ways(" + s + ", " + q + ", " + s + ")", x.ways(s, q, s), 0);
            }
        }
        DUE.is("8 of 8: 8 times .. 1", x.ways(8, 3, 8), 40320);
        DUE.is("8 of 9 in 8 SLOTS", x.ways(9, 3, 8), 0);
    }

    private static void hopeBounds() {
        DUE.part("promise 27: HOPE what 0 above, 1 below; NONE if one can't be, or another what");
        TagReaders x = new TagReaders();
        int[][] wrong = {{-1, 0, 0}, {-1, 0, 1}, {-1, 4, 1}, {13, 0, 0}, {13, 4, 1}, {0, -1, 0}, {0, -1, 1}, {0, 5, 0}, {0, 5, 1},
            {1, 1, -1}, {1, 1, 2}, {LEAST, 0, 0}, {MOST, 0, 1}, {0, LEAST, 0}, {0, MOST, 1}, {1, 1, LEAST}, {1, 1, MOST}, {13, 5, 2}};
        for (int[] a : wrong) {
            EDGE.refused(x, "hope(" + a[0] + ", " + a[1] + ", " + a[2] + ")", () -> x.hope(a[0], a[1], a[2]), NONE);
        }
    }

    private static void fraction(TagReaders x, int n, int q, long above, long below) {
        DUE.is("hope(" + n + ", " + q + ", 0)", x.hope(n, q, 0), above);
        DUE.is("hope(" + n + ", " + q + ", 1)", x.hope(n, q, 1), below);
    }

    private static void hopeOfNothing() {
        DUE.part("Terms 4: HOPE (0: 0 by 1)");
        TagReaders x = new TagReaders();
        for (int q = 0; q <= 4; q++) {
            fraction(x, 0, q, 0, 1);
            fraction(x, 1, q, 1, 1);
        }
        for (int n = 2; n <= 12; n++) {
            fraction(x, n, 0, 0, 1);
        }
    }

    private static void hopeInLowestTerms() {
        DUE.part("Terms 4: HOPE: as a fraction in lowest terms");
        TagReaders x = new TagReaders();
        // n times (L - 1) by L, n - 1 times.
        fraction(x, 2, 1, 1, 1);
        fraction(x, 4, 1, 1, 2);
        fraction(x, 8, 1, 1, 16);
        fraction(x, 12, 1, 3, 512);
        fraction(x, 4, 2, 27, 16);
        fraction(x, 3, 3, 147, 64);
        // 12 times 7^11 by 8^11; 12 times 15^11 by 16^11; 11 times 15^10 by 16^10.
        fraction(x, 12, 3, 5931980229L, 2147483648L);
        fraction(x, 12, 4, 25949267578125L, 4398046511104L);
        fraction(x, 11, 4, 6343154296875L, 1099511627776L);
    }

    private static void bestBounds() {
        DUE.part("promise 28: BEST; NONE if n can't be (1 .. 12)");
        TagReaders x = new TagReaders();
        for (int n : new int[] {0, -1, 13, LEAST, MOST}) {
            EDGE.refused(x, "best(" + n + ")", () -> x.best(n), NONE);
        }
    }

    private static void bestOfEach() {
        DUE.part("Terms 4: BEST of n: of q 0 .. 4 that with the greatest HOPE by L, of several the least");
        TagReaders x = new TagReaders();
        // By 10000: 1: q 0 all; 2: 0, 2500, 1875; 3: 1250, 1406, 957; 5: 791 to 732; 6: 593 to 641;
        // 11: 328.84 to 327.78 of q 3 and q 4; 12: 287 to 307.
        int[] due = {0, 1, 2, 2, 2, 3, 3, 3, 3, 3, 3, 4};
        for (int n = 1; n <= 12; n++) {
            DUE.is("best(" + n + ")", x.best(n), due[n - 1]);
        }
    }

    private static void guessOfNone() {
        DUE.part("Terms 4: GUESS: of n 0 .. 12: nobody in all SLOTS is by 0");
        TagReaders x = new TagReaders();
        for (int q = 0; q <= 4; q++) {
            DUE.is("all EMPTY", x.guess(1 << q, 0, 0), 0);
            DUE.is("one SINGLE", x.guess((1 << q) - 1, 1, 0), 1);
            DUE.is("one CLASH", x.guess((1 << q) - 1, 0, 1), 2);
        }
    }

    private static void guessTheLeast() {
        DUE.part("Terms 4: GUESS: that by which it is most likely, of several the least");
        TagReaders x = new TagReaders();
        // In one SLOT all from 2 on are a CLASH for sure.
        DUE.is("guess(0, 0, 1)", x.guess(0, 0, 1), 2);
        // 2 n by 2^n, n 3 at least.
        DUE.is("guess(0, 1, 1)", x.guess(0, 1, 1), 3);
        // 1 less than (2 n + 2) by 2^n: the more, the likelier.
        DUE.is("guess(0, 0, 2)", x.guess(0, 0, 2), 12);
        DUE.is("guess(2, 1, 1)", x.guess(2, 1, 1), 3);
        DUE.is("guess(1, 2, 1)", x.guess(1, 2, 1), 4);
        DUE.is("guess(2, 0, 2)", x.guess(2, 0, 2), 4);
        DUE.is("guess(0, 2, 2)", x.guess(0, 2, 2), 7);
        DUE.is("guess(0, 1, 3)", x.guess(0, 1, 3), 10);
        DUE.is("guess(0, 0, 4)", x.guess(0, 0, 4), 12);
        DUE.is("guess(14, 1, 1)", x.guess(14, 1, 1), 3);
    }

    private static void guessOfTwelveAtMost() {
        DUE.part("Terms 4: GUESS: none, if it can't be by any");
        TagReaders x = new TagReaders();
        DUE.is("12 SINGLE", x.guess(4, 12, 0), 12);
        DUE.is("13 SINGLE", x.guess(3, 13, 0), NONE);
        DUE.is("16 SINGLE", x.guess(0, 16, 0), NONE);
        DUE.is("6 CLASHES", x.guess(10, 0, 6), 12);
        DUE.is("6 CLASHES of 8", x.guess(2, 0, 6), 12);
        DUE.is("7 CLASHES", x.guess(9, 0, 7), NONE);
        DUE.is("7 CLASHES of 8", x.guess(1, 0, 7), NONE);
        DUE.is("6 CLASHES, 1 SINGLE", x.guess(1, 1, 6), NONE);
        DUE.is("5 CLASHES, 2 SINGLE", x.guess(1, 2, 5), 12);
        DUE.is("5 CLASHES, 3 SINGLE", x.guess(0, 3, 5), NONE);
        DUE.is("1 CLASH, 10 SINGLE", x.guess(5, 10, 1), 12);
        DUE.is("1 CLASH, 11 SINGLE", x.guess(4, 11, 1), NONE);
        DUE.is("16 CLASHES", x.guess(0, 0, 16), NONE);
    }

    private static void guessOfNoSuchNumber() {
        DUE.part("Terms 4: GUESS: none (also if they are together no such number); promise 29: or one can't be");
        TagReaders x = new TagReaders();
        for (int sum : new int[] {0, 3, 5, 6, 7, 9, 10, 11, 12, 13, 14, 15, 17, 24, 31, 32, 33, 64}) {
            EDGE.refused(x, "together " + sum, () -> x.guess(sum, 0, 0), NONE);
            DUE.is("together " + sum, x.guess(Math.max(0, sum - 2), Math.min(1, sum), sum > 1 ? 1 : 0), NONE);
        }
        int[][] wrong = {{-1, 1, 1}, {1, -1, 1}, {1, 1, -1}, {-1, 2, 0}, {5, -1, 0}, {5, 0, -1}, {LEAST, LEAST, 1},
            {LEAST, LEAST, 2}, {MOST, 1, LEAST}, {MOST, MOST, 3}, {MOST, MOST, 2}, {17, 0, -1}, {-16, 32, 0}, {0, LEAST, LEAST}};
        for (int[] a : wrong) {
            EDGE.refused(x, "guess(" + a[0] + ", " + a[1] + ", " + a[2] + ")", () -> x.guess(a[0], a[1], a[2]), NONE);
        }
    }

    private static TagReaders memories(int... memories) {
        TagReaders x = Edge.on(1);
        for (int i = 0; i < memories.length; i++) {
            x.tag(i, memories[i], 1);
        }
        return x;
    }

    private static void least(TagReaders x, int n, int p, int mask) {
        DUE.is("least(0)", x.least(0), n);
        DUE.is("least(1)", x.least(1), p);
        DUE.is("least(2)", x.least(2), mask);
        if (n != NONE) {
            int there = x.look(7);
            DUE.is("SELECT by it takes as many", x.select(0, 4, 0, p, n, mask), there);
            DUE.is("just these", x.least(0) * 100 + x.least(1), n * 100 + p);
        }
    }

    private static void leastOfNone() {
        DUE.part("promise 30: NONE if there is none, none is SELECTED, or another what");
        TagReaders x = memories(5, 6 << 16);
        least(x, NONE, NONE, NONE);
        least(memories(), NONE, NONE, NONE);
        Edge.turnOn(x, Edge.SELECTED);
        for (int what : new int[] {-1, 3, LEAST, MOST}) {
            DUE.is("least(" + what + ")", x.least(what), NONE);
        }
        x.gone(0);
        x.gone(1);
        least(x, NONE, NONE, NONE);
    }

    private static void leastOfAll() {
        DUE.part("promise 30: the least span: all that are there are SELECTED: no bits");
        TagReaders x = memories(-1);
        Edge.turnOn(x, Edge.SELECTED);
        least(x, 0, 0, 0);
        TagReaders y = Edge.full(1);
        Edge.turnOn(y, Edge.SELECTED);
        least(y, 0, 0, 0);
    }

    private static void leastOfOne() {
        DUE.part("promise 30: the least span: one bit");
        TagReaders x = memories(0x00000001, 0x00010000);
        x.select(0, 4, 0, 31, 1, 1);
        least(x, 1, 15, 0);
        x.select(0, 4, 0, 31, 1, 0);
        least(x, 1, 15, 1);
        TagReaders y = memories(0x80000000, 0x00000000);
        y.select(0, 4, 0, 0, 1, 1);
        least(y, 1, 0, 1);
        // Bit 31 alone tells TAGS 0 and 1 from 2 and 3.
        TagReaders z = memories(0x00010001, 0x00020001, 0x00030000, 0x00000000);
        z.select(0, 4, 0, 31, 1, 1);
        least(z, 1, 31, 1);
    }

    private static void leastOfMany() {
        DUE.part("promise 30: the least span of many bits; 2 the MASK as a number (n 32: as an int)");
        // One alone is told by its ID: 16 bits at most. Bits 0 and 15 are wanted both, and all between.
        TagReaders x = memories(0xFFFF0001, 0xFFFE0000, 0x7FFF0001);
        x.select(0, 4, 0, 0, 32, 0xFFFF0001);
        least(x, 16, 0, 65535);
        // TAGS 0 and 1 are unlike in bit 1; 2 is unlike them in bits 0 and 31, 3 in bit 2: bits 2 to 31 are wanted.
        TagReaders y = memories(0x3FFFFFFF, 0x7FFFFFFF, 0xBFFFFFFE, 0x1FFFFFFF);
        y.select(0, 4, 0, 2, 30, 0x3FFFFFFF);
        DUE.is("TAGS 0 and 1", y.tagOf(0, 4) * 10 + y.tagOf(1, 4) + y.look(7), 13);
        least(y, 30, 2, 0x3FFFFFFF);
        // Without 3, bit 0 alone; without 2, bit 2 alone.
        y.gone(3);
        least(y, 1, 0, 0);
        y.tag(3, 0x1FFFFFFF, 1);
        y.gone(2);
        least(y, 1, 2, 1);
    }

    private static void leastThereIsNone() {
        DUE.part("promise 30: NONE if there is none: SELECTED ones that no MASK takes alone");
        // 01 and 10 are SELECTED, 00 and 11 are not.
        TagReaders x = memories(0x00000000, 0x40000000, 0x80000000, 0xC0000000);
        x.select(0, 4, 1, 0, 2, 1);
        x.select(0, 4, 1, 0, 2, 2);
        DUE.is("two", x.look(7), 2);
        least(x, NONE, NONE, NONE);
        x.gone(0);
        x.gone(3);
        least(x, 0, 0, 0);
    }

    private static void leastTheLeastP() {
        DUE.part("promise 30: what 1 p (of several the least)");
        // Bits 14 and 15 both tell TAG 0 from TAG 1; bit 15 alone from TAG 2 as well.
        TagReaders x = memories(0x00000000, 0x00030000);
        x.select(0, 4, 0, 0, 16, 0);
        least(x, 1, 14, 0);
        x.tag(2, 0x00010000, 1);
        least(x, 1, 15, 0);
        x.tag(3, 0x00020000, 1);
        least(x, 2, 14, 0);
    }

    private static void sharp(TagReaders x, int n, int p, int values) {
        DUE.is("sharp(0)", x.sharp(0), n);
        DUE.is("sharp(1)", x.sharp(1), p);
        DUE.is("sharp(2)", x.sharp(2), values);
    }

    private static void sharpOfNone() {
        DUE.part("promise 31: NONE if there are none, or another what");
        TagReaders x = memories();
        sharp(x, NONE, NONE, NONE);
        x.tag(0, 0, 0);
        x.tag(1, LEAST, 0);
        for (int what : new int[] {-1, 3, LEAST, MOST}) {
            DUE.is("sharp(" + what + ")", x.sharp(what), NONE);
        }
        x.gone(0);
        x.gone(1);
        sharp(x, NONE, NONE, NONE);
    }

    private static void sharpOfOne() {
        DUE.part("promise 31: the least span by whose bits all TAGS that are there are unlike: one TAG");
        sharp(memories(-1), 0, 0, 1);
        sharp(memories(-1, 0), 1, 0, 2);
    }

    private static void sharpOfAll() {
        DUE.part("promise 31: 24 TAGS: five bits at least, 24 values");
        sharp(Edge.full(1), 5, 11, 24);
        // Four bits are unlike for 16 TAGS; the next one wants the bit above.
        TagReaders x = Edge.on(1);
        for (int i = 0; i < 16; i++) {
            x.tag(i, i << 16, 1);
        }
        sharp(x, 4, 12, 16);
        x.tag(16, 16 << 16, 1);
        sharp(x, 5, 11, 17);
        // Of TAGS whose IDs are unlike in bit 0 and in bit 15, all 16 bits are wanted.
        sharp(memories(0x00000000, 0x00010000, 0x80000000, 0x80010000), 16, 0, 4);
        // Bits behind the ID count, too.
        sharp(memories(0x00000000, 0x00010001, 0x80000002, 0x80010003), 2, 30, 4);
        // From bit 15 to bit 31.
        sharp(memories(0x00000000, 0x00010000, 0x80000001, 0x80010001), 16, 0, 4);
        sharp(memories(0x00000000, 0x00010000, 0x00020001, 0x00030001), 2, 14, 4);
    }

    private static void sharpTheLeastP() {
        DUE.part("promise 31: what 1 p, of several the least");
        sharp(memories(0x00000000, -1), 1, 0, 2);
        sharp(memories(0x00000000, 0x0003FFFF), 1, 14, 2);
        sharp(memories(0x00000000, 0x5555FFFF), 1, 1, 2);
    }

    private static void valuesBounds() {
        DUE.part("promise 32: a span (n 1 .. 32, p and n 32 at most); NONE if it can't be");
        TagReaders x = memories(0x00000000, -1);
        for (int p = 0; p < 32; p++) {
            DUE.is("one from " + p, x.values(p, 1), 2);
            DUE.is("all from " + p, x.values(p, 32 - p), 2);
            DUE.is("one too many from " + p, x.values(p, 33 - p), NONE);
            DUE.is("none from " + p, x.values(p, 0), NONE);
            DUE.is("-1 from " + p, x.values(p, -1), NONE);
        }
        int[][] wrong = {{-1, 1}, {-1, 33}, {32, 0}, {32, 1}, {0, 33}, {LEAST, 1}, {MOST, 1}, {1, MOST}, {MOST, MOST}, {0, LEAST},
            {LEAST, LEAST}};
        for (int[] a : wrong) {
            EDGE.refused(x, "values(" + a[0] + ", " + a[1] + ")", () -> x.values(a[0], a[1]), NONE);
        }
    }

    private static void valuesOfNoneAndAll() {
        DUE.part("promise 32: how many values TAGS that are there have");
        DUE.is("none there", memories().values(0, 32), 0);
        TagReaders x = Edge.full(1);
        DUE.is("all 24 by 32 bits", x.values(0, 32), 24);
        DUE.is("all 24 by 5", x.values(11, 5), 24);
        DUE.is("by 4", x.values(12, 4), 16);
        DUE.is("by the first bit", x.values(0, 1), 1);
        DUE.is("by bit 11", x.values(11, 1), 2);
        DUE.is("behind the ID", x.values(16, 16), 1);
        for (int i = 0; i < 23; i++) {
            x.gone(i);
        }
        DUE.is("one there", x.values(0, 32), 1);
        x.gone(23);
        DUE.is("none there", x.values(0, 32), 0);
    }

    private static void logIsEmpty() {
        DUE.part("Terms 4: THE LOG: no line yet");
        TagReaders x = Edge.full(15);
        for (int what = 0; what <= 3; what++) {
            DUE.is("log(0, " + what + ")", x.log(0, what), NONE);
            DUE.is("log(59, " + what + ")", x.log(59, what), NONE);
        }
        DUE.is("lines", x.look(10), 0);
    }

    private static void logIsFull() {
        DUE.part("Terms 4: THE LOG (the latest 60)");
        TagReaders x = Edge.full(1);
        for (int line = 1; line <= 130; line++) {
            x.tick(1);
            x.select(0, 0, 2, 0, 16, line % 30);
            DUE.is("lines that came", x.look(10), line);
            int kept = Math.min(line, 60);
            EDGE.line(x, 0, line, 0, 6, line % 30 < 24 ? 1 : 0);
            DUE.is("the first one kept", x.log(kept - 1, 0), line - kept + 1);
            DUE.is("no more", x.log(kept, 0), NONE);
        }
    }

    private static void logLines() {
        DUE.part("Terms 4: THE LOG: TICK, READER, what, a number");
        TagReaders x = Edge.with(12, 0x0000, 0x8000);
        x.tick(2);
        x.select(3, 4, 6, 0, 1, 1);
        x.begin(3, 0, 0, 1, Edge.TREE);
        x.begin(2, 0, 0, 0, Edge.TREE);
        x.tune(2, 2, 1);
        x.tick(1);
        x.begin(3, 0, 0, 2, Edge.SLOTS);
        x.stop(3);
        x.begin(3, 1, 0, 0, Edge.TREE);
        x.tick(1);
        x.power(3, false);
        int[][] due = {{4, 3, 5, 0}, {4, 3, 3, 2}, {3, 3, 0, 2}, {3, 3, 5, 0}, {3, 3, 0, 0}, {3, 3, 4, 1}, {3, 3, 2, 0},
            {3, 2, 4, 1}, {3, 2, 2, 1}, {2, 2, 0, 1}, {2, 3, 0, 1}, {2, 3, 6, 1}};
        for (int i = 0; i < due.length; i++) {
            EDGE.line(x, i, due[i]);
        }
        DUE.is("lines", x.look(10), due.length);
    }

    private static void logPromise() {
        DUE.part("promise 37: line i (0: the latest); NONE if there is none such, or another what");
        TagReaders x = Edge.on(1);
        for (int i = 0; i < 70; i++) {
            x.select(0, 0, 0, 0, 0, 0);
        }
        for (int i : new int[] {-1, 60, 61, 69, 70, LEAST, MOST}) {
            DUE.is("log(" + i + ", 1)", x.log(i, 1), NONE);
        }
        for (int what : new int[] {-1, 4, LEAST, MOST}) {
            DUE.is("log(0, " + what + ")", x.log(0, what), NONE);
            DUE.is("log(59, " + what + ")", x.log(59, what), NONE);
        }
        DUE.is("log(59, 2)", x.log(59, 2), 6);
    }

    private static void imageIsNone() {
        DUE.part("promise 40: THE IMAGE is gone back to: false if there is none");
        TagReaders x = Edge.full(1);
        EDGE.refused(x, "image(false)", () -> x.image(false));
        x.tick(1);
        EDGE.refused(x, "image(false)", () -> x.image(false));
        DUE.is("image(true)", x.image(true), true);
        DUE.is("image(false)", x.image(false), true);
    }

    private static void imageMoreThanOnce() {
        DUE.part("Terms 4: gone back to it may be more than once");
        TagReaders x = Edge.full(1);
        x.begin(0, 0, 0, 0, Edge.SLOTS);
        x.tick(5);
        x.image(true);
        int[] taken = Told.by(x);
        for (int i = 0; i < 5; i++) {
            DUE.is("back", x.image(false), true);
            DUE.is("all as it was", Arrays.equals(taken, Told.by(x)), true);
            x.tick(3 + 7 * i);
            x.gone(i);
            x.state(i);
            x.power(0, i % 2 == 0);
        }
        DUE.is("back", x.image(false), true);
        DUE.is("and again", x.image(false), true);
        DUE.is("all as it was", Arrays.equals(taken, Told.by(x)), true);
        x.tick(2);
        int[] later = Told.by(x);
        DUE.is("taken anew", x.image(true), true);
        x.tick(2);
        x.image(false);
        DUE.is("the later one", Arrays.equals(later, Told.by(x)), true);
    }

    private static void imageOfNew() {
        DUE.part("Terms 4: THE IMAGE of a new object");
        TagReaders x = new TagReaders();
        int[] taken = Told.by(x);
        DUE.is("taken", x.image(true), true);
        for (int i = 0; i < 24; i++) {
            x.tag(i, Edge.memory(i, 0), 1);
        }
        x.power(0, true);
        x.tune(0, 0, 0);
        x.begin(0, 0, 0, 0, Edge.SLOTS);
        x.tick(40);
        x.begin(0, 2, 0, 0, Edge.TREE);
        Edge.ticks(x, 100);
        x.image(false);
        DUE.is("as new", Arrays.equals(taken, Told.by(x)), true);
        EDGE.learnt(x, 0, "");
        DUE.is("a TAG may come", x.tag(0, 0, 1), true);
    }

    private static void imageIsAll() {
        DUE.part("Terms 4: THE IMAGE: all that is and was told, as it was when it was taken");
        TagReaders x = Edge.with(3, 0x0000, 0x4000, 0x8000);
        x.set(0, 7);
        x.set(1, 9);
        x.tune(1, 1, 8);
        x.begin(0, 1, 0, 0, Edge.TREE);
        x.tick(5);
        x.put(0, 2, 16, 16, 0xABCD);
        x.select(0, 3, 5, 0, 1, 0);
        x.power(0, false);
        x.move(0, 1);
        x.begin(1, 2, 0, 0, Edge.FRAMES);
        x.tick(2);
        x.image(true);
        int[] taken = Told.by(x);
        x.tick(40);
        x.select(1, 4, 3, 0, 0, 0);
        x.begin(1, 1, 0, 0, Edge.LEARNT_TREE);
        x.set(0, 1);
        x.set(1, 1);
        x.tick(9);
        int[] later = Told.by(x);
        x.image(false);
        DUE.is("as it was", Arrays.equals(taken, Told.by(x)), true);
        x.tick(40);
        x.select(1, 4, 3, 0, 0, 0);
        x.begin(1, 1, 0, 0, Edge.LEARNT_TREE);
        x.set(0, 1);
        x.set(1, 1);
        x.tick(9);
        DUE.is("from it all goes on likewise", Arrays.equals(later, Told.by(x)), true);
    }

    private static void imageOfReaders() {
        DUE.part("Terms 4: THE IMAGE: all that was told to a READER, and of its latest TAKING OF STOCK");
        TagReaders x = Edge.with(3, 0x0000, 0x8000);
        x.tune(0, 0, 3);
        x.tune(0, 1, 7);
        x.tune(0, 2, 1);
        x.tune(1, 2, 1);
        x.begin(0, 0, 0, 2, Edge.TREE);
        x.begin(1, 1, 1, 1, Edge.TREE);
        x.tick(1);
        EDGE.reader(x, 0, 0, 1, 0, 3, 7, 0, 0, 2, 1, 0, 0, 0, 0, 0, 1, 0, 0, 2, 1, 1, 0, 1);
        EDGE.reader(x, 1, 4, 1, 1, 1, 1);
        x.image(true);
        int[] taken = Told.by(x);
        for (int r = 0; r < 2; r++) {
            x.tune(r, 0, 9);
            x.tune(r, 1, 1);
            x.tune(r, 2, 2 + r);
            x.begin(r, 3, 1 - r, r, Edge.FRAMES);
            x.tick(3);
            x.stop(r);
        }
        x.power(0, false);
        x.image(false);
        DUE.is("as it was", Arrays.equals(taken, Told.by(x)), true);
    }

    private static void imageInTheMidstOfATree() {
        DUE.part("Terms 4: THE IMAGE: all that is, in the midst of a TREE");
        TagReaders x = Edge.with(1, 0x0000, 0x4000, 0x8000);
        x.begin(0, 0, 0, 0, Edge.TREE);
        x.tick(3);
        x.image(true);
        x.stop(0);
        x.begin(0, 3, 1, 0, Edge.TREE);
        x.tick(1);
        EDGE.learnt(x, 0, "e");
        x.image(false);
        EDGE.learnt(x, 0, "");
        EDGE.row(x, 0, "01", "1");
        x.tick(2);
        EDGE.learnt(x, 0, "00", "01", "1");
        DUE.is("first READ", x.read(0, 0), 0);
    }

    private static void imageOfAFullLog() {
        DUE.part("Terms 4: THE IMAGE: THE LOG, as it was, more than 60 lines later");
        TagReaders x = Edge.full(1);
        for (int i = 0; i < 65; i++) {
            x.select(0, 0, 2, 0, 16 - i % 5, 0);
        }
        x.image(true);
        int[] taken = Told.by(x);
        for (int i = 0; i < 75; i++) {
            x.tick(1);
            x.select(0, 0, 2, 0, 16, 99);
        }
        DUE.is("no line of then is kept", x.log(59, 0), 16);
        x.image(false);
        DUE.is("as it was", Arrays.equals(taken, Told.by(x)), true);
        DUE.is("lines", x.look(10), 65);
        for (int i = 0; i < 60; i++) {
            // 16 less i bits of 0: of IDs 0 to 23 those that begin so: 1, 2, 4, 8, 16.
            EDGE.line(x, i, 0, 0, 6, 1 << (64 - i) % 5);
        }
    }
}
