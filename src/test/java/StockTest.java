/** TAKING STOCK, and what is told of it: promises 11, 13, 14, 16 to 19, 22 to 25, 34, 37 to 39. */
public final class StockTest {
    private static final Due DUE = new Due();
    private static final int NONE = -1;
    private static final int SLOTS = 0;
    private static final int TREE = 1;
    private static final int FRAMES = 2;
    private static final int LEARNT_TREE = 3;

    public static void main(String[] args) {
        tick();
        slotsReadAndClash();
        slotsStepTheExponent();
        slotsTurnToNewFrames();
        slotsOfNobody();
        framesGuess();
        framesWithoutGuess();
        tree();
        treeOfNone();
        learntTree();
        learntStays();
        readTurnsTheOtherOne();
        jamming();
        jammedSlotsStay();
        missed();
        severalReaders();
        lastsInThought();
        wouldHaveAndQueries();
        prefixes();
        readAndBoth();
        shares();
        logKeepsSixty();
        never();
        counts();
        DUE.end();
    }

    /** READERS of the set are ON; TAGS 0 on have these IDs, all READERS of the set reach them. */
    private static TagReaders with(int readers, int... ids) {
        TagReaders x = new TagReaders();
        for (int i = 0; i < 4; i++) {
            if ((readers >> i & 1) == 1) {
                x.power(i, true);
            }
        }
        for (int i = 0; i < ids.length; i++) {
            x.tag(i, ids[i] << 16, readers);
        }
        return x;
    }

    private static void line(TagReaders x, int i, int tick, int reader, int what, int number) {
        int[] all = {tick, reader, what, number};
        for (int k = 0; k < 4; k++) {
            DUE.is("log(" + i + ", " + k + ")", x.log(i, k), all[k]);
        }
    }

    private static void readers(TagReaders x, int reader, int from, int... due) {
        for (int k = 0; k < due.length; k++) {
            DUE.is("reader(" + reader + ", " + (from + k) + ")", x.reader(reader, from + k), due[k]);
        }
    }

    private static void slots(TagReaders x, int... due) {
        for (int i = 0; i < due.length; i++) {
            DUE.is("SLOT of " + i, x.tagOf(i, 7), due[i]);
        }
    }

    private static void tick() {
        DUE.part("promise 13");
        TagReaders x = new TagReaders();
        DUE.is("tick(1)", x.tick(1), 1);
        DUE.is("tick(40)", x.tick(40), 41);
        DUE.is("tick(0)", x.tick(0), NONE);
        DUE.is("tick(41)", x.tick(41), NONE);
        DUE.is("tick(-3)", x.tick(-3), NONE);
        DUE.is("tick(2147483647)", x.tick(Integer.MAX_VALUE), NONE);
        DUE.is("look(0)", x.look(0), 41);
        for (int i = 0; i < 248; i++) {
            x.tick(40);
        }
        DUE.is("look(0)", x.look(0), 9961);
        DUE.is("above 9999", x.tick(39), NONE);
        DUE.is("nothing is done", x.look(0), 9961);
        DUE.is("9999", x.tick(38), 9999);
        DUE.is("no more", x.tick(1), NONE);
    }

    private static void slotsReadAndClash() {
        DUE.part("SLOTS");
        TagReaders x = with(1, 1, 2, 3, 4);
        x.tune(0, 0, 16);
        x.state(Draws.stateFor(4, 1, 0, 3, 1));
        DUE.is("begin", x.begin(0, 0, 0, 0, SLOTS), 4);
        readers(x, 0, 8, 2, 0, 4, 0, 0, 0, 0, 1, 0);
        slots(x, 1, 0, 3, 1);
        x.tick(1);
        line(x, 0, 1, 0, 2, 1);
        slots(x, 0, NONE, 2, 0);
        DUE.is("READ turned to B", x.tagOf(1, 0), 1);
        DUE.is("READ once", x.tagOf(1, 9), 1);
        DUE.is("by", x.tagOf(1, 10), 0);
        DUE.is("not BUSY", x.tagOf(1, 6), NONE);
        readers(x, 0, 8, 2, 1, 3, 0, 1, 0, 0, 1, 0);
        DUE.is("QF stays", x.reader(0, 2), 16);
        x.tick(1);
        line(x, 0, 2, 0, 3, 2);
        slots(x, NONE, NONE, 1, NONE);
        DUE.is("QF is STEP more", x.reader(0, 2), 18);
        readers(x, 0, 8, 2, 2, 3, 0, 1, 0, 1, 1, 0);
        x.tick(1);
        line(x, 0, 3, 0, 1, 0);
        DUE.is("QF is STEP less", x.reader(0, 2), 16);
        slots(x, NONE, NONE, 0, NONE);
        x.state(Draws.stateFor(4, 2, 0));
        x.tick(1);
        line(x, 0, 4, 0, 2, 2);
        DUE.is("a new FRAME, same q", x.reader(0, 15), 2);
        slots(x, 2, NONE, NONE, 0);
        readers(x, 0, 8, 2, 0, 2, 0, 2, 1, 1, 2, 0);
        x.tick(3);
        line(x, 0, 7, 0, 2, 0);
        DUE.is("not OVER before the last SLOT", x.reader(0, 1), 1);
        DUE.is("none of it", x.reader(0, 10), 0);
        x.tune(0, 0, 18);
        x.tick(1);
        line(x, 1, 8, 0, 1, 0);
        line(x, 0, 8, 0, 4, 4);
        readers(x, 0, 8, 2, 0, 0, 0, 4, 3, 1, 2, 0);
        DUE.is("IDLE", x.reader(0, 1), 0);
    }

    private static void slotsStepTheExponent() {
        DUE.part("SLOTS, QF");
        TagReaders x = with(1, 1, 2, 3);
        x.tune(0, 0, 12);
        x.tune(0, 1, 1);
        x.state(Draws.stateFor(4, 1, 1, 1));
        x.begin(0, 0, 0, 0, SLOTS);
        DUE.is("12 and 4 by 8", x.reader(0, 8), 2);
        x.state(Draws.stateFor(2, 0, 0, 0));
        x.tick(1);
        DUE.is("11 and 4 by 8", x.reader(0, 8), 1);
        DUE.is("a new FRAME", x.reader(0, 15), 2);
        DUE.is("SLOTS gone of it", x.reader(0, 9), 0);
        slots(x, 0, 0, 0);
        x.state(Draws.stateFor(4, 3, 0, 2));
        x.tick(1);
        DUE.is("12 again", x.reader(0, 2), 12);
        DUE.is("q is more", x.reader(0, 8), 2);
        DUE.is("a third FRAME", x.reader(0, 15), 3);
        slots(x, 3, 0, 2);

        TagReaders z = with(1, 1, 2);
        z.tune(0, 0, 60);
        z.tune(0, 1, 8);
        z.state(Draws.stateFor(256, 0, 0));
        z.begin(0, 0, 0, 0, SLOTS);
        z.tick(1);
        DUE.is("64 at most", z.reader(0, 2), 64);
        DUE.is("q 8 yet", z.reader(0, 8), 8);
        DUE.is("same FRAME", z.reader(0, 15), 1);
    }

    private static void slotsTurnToNewFrames() {
        DUE.part("SLOTS, another q with nobody left");
        TagReaders x = with(1, 1);
        x.tune(0, 0, 4);
        x.tune(0, 1, 1);
        x.state(Draws.stateFor(2, 0));
        x.begin(0, 0, 0, 0, SLOTS);
        x.tick(1);
        DUE.is("READ", x.reader(0, 12), 1);
        x.tick(1);
        DUE.is("QF 3: a new FRAME of one SLOT", x.reader(0, 15), 2);
        DUE.is("TAKES STOCK yet", x.reader(0, 1), 1);
        x.tick(1);
        DUE.is("OVER", x.log(0, 2), 4);
        DUE.is("QF", x.reader(0, 2), 2);
    }

    private static void slotsOfNobody() {
        DUE.part("SLOTS of nobody");
        TagReaders x = with(1);
        x.tune(0, 0, 3);
        x.tune(0, 1, 8);
        DUE.is("begin", x.begin(0, 0, 0, 0, SLOTS), 0);
        line(x, 0, 0, 0, 0, 0);
        x.tick(1);
        line(x, 1, 1, 0, 1, 0);
        line(x, 0, 1, 0, 4, 0);
        DUE.is("0 at least", x.reader(0, 2), 0);
        TagReaders y = with(1);
        y.begin(0, 0, 0, 0, SLOTS);
        // QF 32 by 2: another q at 26, 18 and 10, by 3, 4 and 4 SLOTS; at 6 the second of two SLOTS is the last.
        DUE.is("lasts", y.lasts(0), 13);
        DUE.is("tick", y.tick(13), 13);
        readers(y, 0, 8, 1, 0, 0, 0, 0, 13, 0, 4, 0);
        DUE.is("QF", y.reader(0, 2), 6);
    }

    private static void framesGuess() {
        DUE.part("FRAMES");
        TagReaders x = with(1, 1, 2, 3, 4, 5);
        x.state(Draws.stateFor(4, 0, 0, 2, 3, 0));
        x.begin(0, 0, 0, 0, FRAMES);
        readers(x, 0, 8, 2, 0, 5, 0, 0, 0, 0, 1, 0);
        x.tick(3);
        DUE.is("q stays", x.reader(0, 8), 2);
        DUE.is("QF stays", x.reader(0, 2), 32);
        slots(x, NONE, NONE, NONE, 0, NONE);
        // 1 EMPTY, 2 SINGLE, 1 CLASH: most likely by 4; 2 are left as it seems: q 1 is BEST.
        DUE.is("guess", x.guess(1, 2, 1), 4);
        x.tick(1);
        DUE.is("q by BEST of 2", x.reader(0, 8), 1);
        DUE.is("FRAMES", x.reader(0, 15), 2);
        DUE.is("left", x.reader(0, 10), 3);

        TagReaders y = with(1, 1, 2, 3, 4);
        y.state(Draws.stateFor(4, 1, 2, 3, 0));
        y.begin(0, 0, 0, 0, FRAMES);
        y.tick(4);
        line(y, 0, 4, 0, 4, 4);
        DUE.is("one FRAME", y.reader(0, 15), 1);

        TagReaders z = with(3, 1, 2);
        z.state(Draws.stateFor(4, 1, 3));
        z.begin(0, 0, 0, 0, FRAMES);
        z.begin(1, 0, 0, 0, TREE);
        // 1 and 2 hear nothing while READER 1 asks, which takes one TICK.
        z.tick(1);
        DUE.is("its SLOT stays", z.tagOf(0, 7), 1);
        z.tick(2);
        DUE.is("READ", z.reader(0, 12), 1);
        z.tick(1);
        DUE.is("3 EMPTY, 1 SINGLE: none is above, so 1: q 0", z.reader(0, 8), 0);
        DUE.is("a FRAME of one SLOT", z.tagOf(1, 7), 0);
        z.tick(1);
        DUE.is("OVER", z.log(0, 2), 4);
    }

    private static void framesWithoutGuess() {
        DUE.part("FRAMES, no GUESS");
        TagReaders x = with(1, 1, 2, 3, 4, 5, 6, 7, 8, 9, 10, 11, 12);
        for (int i = 12; i < 24; i++) {
            x.tag(i, i + 1 << 16, 1);
        }
        // 4 CLASHES are likely by some number up to 12.
        x.state(Draws.stateFor(4, 0, 2, 3, 1, 2, 0, 3, 1));
        x.begin(0, 0, 0, 0, FRAMES);
        x.tick(4);
        DUE.is("BEST of GUESS", x.reader(0, 8), x.best(x.guess(0, 0, 4)));
        DUE.is("q by BEST", x.reader(0, 8), 4);
        x.stop(0);

        // Two TAGS in one SLOT of two: a GUESS there is none of only if more than 12 are needed.
        TagReaders y = new TagReaders();
        y.power(0, true);
        for (int i = 0; i < 24; i++) {
            y.tag(i, i << 16, 1);
        }
        y.begin(0, 0, 0, 0, FRAMES);
        int frames = 1;
        for (int i = 0; i < 300 && y.reader(0, 1) == 1; i++) {
            int q = y.reader(0, 8);
            int empty = 0;
            int single = 0;
            int clash = 0;
            while (y.reader(0, 15) == frames && y.reader(0, 1) == 1) {
                y.tick(1);
                int what = y.log(0, 2) == 4 ? y.log(1, 2) : y.log(0, 2);
                empty += what == 1 ? 1 : 0;
                single += what == 2 ? 1 : 0;
                clash += what == 3 ? 1 : 0;
            }
            DUE.is("SLOTS of the FRAME", empty + single + clash, 1 << q);
            frames++;
            if (y.reader(0, 1) == 1) {
                int guess = y.guess(empty, single, clash);
                int due = guess == NONE ? Math.min(4, q + 1) : y.best(Math.max(1, guess - single));
                DUE.is("q by " + empty + ", " + single + ", " + clash, y.reader(0, 8), due);
            }
        }
        DUE.is("all READ", y.reader(0, 12), 24);
        noGuessOfSixteen();
    }

    private static void noGuessOfSixteen() {
        TagReaders x = new TagReaders();
        x.power(0, true);
        for (int i = 0; i < 24; i++) {
            x.tag(i, i << 16, 1);
        }
        // 7 CLASHES of 16 SLOTS want 14 TAGS: such a FRAME comes for some STATE.
        for (int state = 0; state < 3000; state++) {
            x.state(state);
            x.begin(0, 0, 0, 0, FRAMES);
            x.tick(4);
            if (x.reader(0, 8) == 4) {
                x.tick(16);
                int clashes = 0;
                int singles = 0;
                for (int i = 0; i < 16; i++) {
                    clashes += x.log(i, 2) == 3 ? 1 : 0;
                    singles += x.log(i, 2) == 2 ? 1 : 0;
                }
                if (2 * clashes + singles > 12 && x.reader(0, 1) == 1) {
                    DUE.is("4 at most", x.reader(0, 8), 4);
                    DUE.is("no GUESS", x.guess(16 - clashes - singles, singles, clashes), NONE);
                    return;
                }
            }
            x.stop(0);
            x.select(0, 0, 1, 0, 0, 0);
        }
        DUE.is("no such FRAME came", 1, 0);
    }

    private static void tree() {
        DUE.part("TREE");
        TagReaders x = with(1, 0xC000, 0x4000, 0xC001);
        x.begin(0, 1, 0, 0, TREE);
        readers(x, 0, 4, 1, 0, 0, 1, 0, 0, 3, 1, 0, 0, 0, 0, 0);
        x.tick(1);
        line(x, 0, 1, 0, 3, 3);
        DUE.is("row", x.reader(0, 11), 2);
        DUE.is("0 first", x.prefix(0, 0, 0) * 10 + x.prefix(0, 0, 1), 10);
        DUE.is("then 1", x.prefix(0, 1, 0) * 10 + x.prefix(0, 1, 1), 11);
        x.tick(1);
        line(x, 0, 2, 0, 2, 1);
        x.tick(1);
        line(x, 0, 3, 0, 3, 2);
        x.tick(1);
        line(x, 0, 4, 0, 1, 0);
        DUE.is("13 CLASHES, 2 SINGLES, 13 EMPTY and 11", x.lasts(0), 29);
        x.tick(29);
        line(x, 0, 33, 0, 4, 3);
        line(x, 1, 33, 0, 1, 0);
        line(x, 14, 20, 0, 2, 2);
        line(x, 15, 19, 0, 2, 0);
        readers(x, 0, 9, 0, 0, 0, 3, 14, 16, 0, 0);
        DUE.is("as many as QUERIES", x.count(0), 33);
        // 0, then 10 EMPTY, 110 .. EMPTY: one side by side with each, all of other lengths.
        DUE.is("LEARNT", x.reader(0, 18), 17);
        DUE.is("learnt(0, 0, 0)", x.learnt(0, 0, 0), 1);
        DUE.is("learnt(0, 0, 2)", x.learnt(0, 0, 2), 0);
        DUE.is("learnt(0, 1, 0)", x.learnt(0, 1, 0), 2);
        DUE.is("learnt(0, 1, 1)", x.learnt(0, 1, 1), 2);
        DUE.is("learnt(0, 1, 2)", x.learnt(0, 1, 2), 1);
        DUE.is("learnt(0, 2, 0)", x.learnt(0, 2, 0), 16);
        DUE.is("learnt(0, 2, 1)", x.learnt(0, 2, 1), 0xC000);
        DUE.is("learnt(0, 3, 1)", x.learnt(0, 3, 1), 0xC001);
        DUE.is("learnt(0, 4, 0)", x.learnt(0, 4, 0), 15);
        DUE.is("learnt(0, 16, 1)", x.learnt(0, 16, 1), 7);
        DUE.is("learnt(0, 16, 2)", x.learnt(0, 16, 2), 1);
        DUE.is("learnt(0, 17, 0)", x.learnt(0, 17, 0), NONE);
    }

    private static void treeOfNone() {
        DUE.part("TREE of none");
        TagReaders x = with(1);
        DUE.is("begin", x.begin(0, 0, 0, 0, TREE), 0);
        x.tick(1);
        line(x, 1, 1, 0, 1, 0);
        line(x, 0, 1, 0, 4, 0);
        DUE.is("LEARNT", x.reader(0, 18), 1);
        DUE.is("one of none", x.learnt(0, 0, 0), 0);
        DUE.is("EMPTY now", x.learnt(0, 0, 2), 1);
        x.begin(0, 0, 0, 0, LEARNT_TREE);
        DUE.is("row", x.reader(0, 11), 1);
        DUE.is("bits", x.prefix(0, 0, 0), 0);
        x.tick(1);
        DUE.is("OVER", x.log(0, 2), 4);
    }

    private static void learntTree() {
        DUE.part("LEARNT TREE");
        TagReaders x = with(1, 0x0000, 0x4000, 0x8000, 0xC000);
        x.begin(0, 0, 0, 0, TREE);
        x.tick(7);
        DUE.is("LEARNT 00, 01, 10, 11", x.reader(0, 18), 4);
        x.gone(0);
        x.gone(1);
        x.select(0, 0, 1, 0, 0, 0);
        DUE.is("begin", x.begin(0, 0, 0, 0, LEARNT_TREE), 2);
        DUE.is("row", x.reader(0, 11), 4);
        DUE.is("first", x.prefix(0, 0, 0) * 10 + x.prefix(0, 0, 1), 20);
        DUE.is("last", x.prefix(0, 3, 0) * 10 + x.prefix(0, 3, 1), 23);
        x.tick(4);
        readers(x, 0, 9, 0, 0, 0, 2, 2, 0, 0, 0);
        line(x, 0, 4 + 7, 0, 4, 2);
        // 00 and 01 were EMPTY both: 0 alone.
        DUE.is("LEARNT 0, 10, 11", x.reader(0, 18), 3);
        DUE.is("learnt(0, 0, 0)", x.learnt(0, 0, 0), 1);
        DUE.is("learnt(0, 0, 1)", x.learnt(0, 0, 1), 0);
        DUE.is("learnt(0, 0, 2)", x.learnt(0, 0, 2), 1);
        DUE.is("learnt(0, 1, 1)", x.learnt(0, 1, 1), 2);
        DUE.is("learnt(0, 1, 2)", x.learnt(0, 1, 2), 0);
        DUE.is("QUERIES goes by a TREE alone", x.queries(0, 0, 1, 0), 5);
        x.begin(0, 0, 0, 0, LEARNT_TREE);
        DUE.is("nobody", x.reader(0, 10), 0);
        x.tick(3);
        DUE.is("all is one again", x.reader(0, 18), 1);
        DUE.is("EMPTY", x.learnt(0, 0, 2), 1);
        DUE.is("of no bits", x.learnt(0, 0, 0), 0);
        x.tag(5, 0x0001 << 16, 1);
        x.tag(6, 0x8001 << 16, 1);
        x.begin(0, 0, 0, 0, LEARNT_TREE);
        x.tick(1);
        DUE.is("a CLASH of no bits", x.log(0, 2), 3);
        x.tick(2);
        DUE.is("two SINGLE ones stay two", x.reader(0, 18), 2);
    }

    private static void learntStays() {
        DUE.part("LEARNT stays");
        TagReaders x = with(3, 0x0000, 0x8000);
        x.begin(0, 0, 0, 0, TREE);
        x.tick(3);
        DUE.is("LEARNT", x.reader(0, 18), 2);
        DUE.is("another has not", x.reader(1, 18), 1);
        x.begin(0, 0, 0, 0, TREE);
        x.stop(0);
        DUE.is("BROKEN learns nothing", x.reader(0, 18), 2);
        x.begin(0, 0, 0, 0, FRAMES);
        DUE.is("SLOTS have no row", x.reader(0, 11), 0);
        x.tick(40);
        DUE.is("SLOTS learn nothing", x.reader(0, 18), 2);
        int[][] wrong = {{0, -1, 0}, {0, 2, 0}, {0, 0, 3}, {0, 0, -1}, {4, 0, 0}, {-1, 0, 0}};
        for (int[] a : wrong) {
            DUE.is("learnt(" + a[0] + ", " + a[1] + ", " + a[2] + ")", x.learnt(a[0], a[1], a[2]), NONE);
        }
    }

    private static void readTurnsTheOtherOne() {
        DUE.part("READ");
        TagReaders x = with(1, 1);
        x.set(0, 10);
        x.begin(0, 1, 0, 0, TREE);
        x.tick(1);
        DUE.is("B", x.tagOf(0, 1), 1);
        DUE.is("since now", x.tagOf(0, 11), 0);
        DUE.is("turned to B", x.count(8), 1);
        x.tick(4);
        DUE.is("begin of B", x.begin(0, 1, 1, 0, TREE), 1);
        x.tick(1);
        DUE.is("A", x.tagOf(0, 1), 0);
        DUE.is("turned to A", x.count(8), 1);
        DUE.is("not FADED", x.count(9), 0);
        DUE.is("READ twice", x.tagOf(0, 9), 2);
        for (int session = 0; session < 4; session++) {
            TagReaders y = with(1, 1);
            y.begin(0, session, 0, 0, SLOTS);
            y.tick(16);
            for (int flag = 0; flag < 5; flag++) {
                DUE.is("only that of the SESSION", y.tagOf(0, flag), flag == session ? 1 : 0);
            }
        }
        TagReaders z = with(1, 1);
        z.set(0, 2);
        z.select(0, 1, 5, 0, 0, 0);
        z.tune(0, 0, 24);
        z.state(Draws.stateFor(8, 5));
        z.begin(0, 1, 1, 0, SLOTS);
        z.tick(2);
        DUE.is("FADES while it is BUSY", z.tagOf(0, 1), 0);
        DUE.is("BUSY yet", z.tagOf(0, 6), 0);
    }

    private static void jamming() {
        DUE.part("JAMMED");
        TagReaders x = new TagReaders();
        for (int i = 0; i < 3; i++) {
            x.power(i, true);
        }
        x.tag(0, 0x0001 << 16, 3);
        x.tag(1, 0x8001 << 16, 1);
        x.tag(2, 0x4001 << 16, 2);
        DUE.is("not BUSY", x.jammed(0), NONE);
        DUE.is("none such", x.jammed(3), NONE);
        DUE.is("none such", x.jammed(24), NONE);
        DUE.is("none such", x.jammed(-1), NONE);
        x.begin(0, 0, 0, 0, TREE);
        DUE.is("alone", x.jammed(0), 0);
        x.tune(1, 2, 1);
        x.begin(1, 0, 0, 0, SLOTS);
        DUE.is("another CHANNEL", x.jammed(0), 0);
        x.tune(1, 2, 0);
        DUE.is("one CHANNEL", x.jammed(0), 1);
        DUE.is("not reached by the other", x.jammed(1), 0);
        DUE.is("not reached by the other", x.jammed(2), 0);
        x.move(0, 5);
        DUE.is("moved away", x.jammed(0), 0);
        x.move(0, 3);
        x.tick(1);
        DUE.is("the SINGLE is 1", x.log(1, 0), 1);
        DUE.is("1 alone ANSWERS", x.read(0, 0), 1);
        DUE.is("how often JAMMED", x.count(11), 1);
        DUE.is("0 is MISSED", x.reader(0, 16), 1);
        DUE.is("MISSED", x.count(12), 1);
        DUE.is("not BUSY any more", x.tagOf(0, 6), NONE);
        DUE.is("READ: no", x.tagOf(0, 9), 0);
        DUE.is("JAMMED is of BUSY ones alone", x.jammed(0), NONE);
        x.tick(1);
        DUE.is("how often JAMMED", x.count(11), 1);
    }

    private static void jammedSlotsStay() {
        DUE.part("JAMMED SLOTS");
        TagReaders x = new TagReaders();
        x.power(0, true);
        x.power(1, true);
        x.tag(0, 1 << 16, 3);
        x.tag(1, 2 << 16, 1);
        x.tune(0, 0, 8);
        x.state(Draws.stateFor(2, 0, 1));
        x.begin(0, 0, 0, 0, SLOTS);
        x.tune(1, 0, 0);
        x.tune(1, 1, 1);
        x.begin(1, 3, 1, 0, FRAMES);
        slots(x, 0, 1);
        x.tune(0, 1, 1);
        x.tick(1);
        DUE.is("nobody ANSWERS", x.reader(0, 13), 1);
        slots(x, 0, 0);
        x.tick(1);
        DUE.is("1 alone", x.read(0, 0), 1);
        DUE.is("left: a new FRAME", x.reader(0, 15), 2);
        DUE.is("it has a DRAW all the same", x.tagOf(0, 7), Draws.of(stateBefore(2, 0, 1), 2));
        x.tick(2);
        DUE.is("JAMMED yet", x.tagOf(0, 9), 0);
        DUE.is("each TICK", x.count(11), 4);
        DUE.is("the other is OVER", x.reader(1, 1), 0);
        x.tick(20);
        DUE.is("READ then", x.tagOf(0, 9), 1);
        DUE.is("no more", x.count(11), 4);
        DUE.is("none MISSED by SLOTS", x.count(12), 0);

        // As (a) begins: READER 0 is OVER in this TICK, READER 1's TAG is JAMMED in it all the same.
        TagReaders y = with(3, 1);
        y.begin(1, 0, 0, 0, TREE);
        y.begin(0, 0, 0, 0, TREE);
        y.tick(1);
        DUE.is("both are OVER", y.look(9), 0);
        DUE.is("MISSED by 1", y.reader(1, 16), 1);
        DUE.is("log", y.log(0, 1), 1);
        DUE.is("log", y.log(2, 1), 0);
    }

    private static int stateBefore(int m, int... slots) {
        int state = Draws.stateFor(m, slots);
        for (int i = 0; i < slots.length; i++) {
            state = Draws.next(state);
        }
        return state;
    }

    private static void missed() {
        DUE.part("MISSED");
        TagReaders x = new TagReaders();
        x.power(0, true);
        x.power(1, true);
        for (int i = 0; i < 4; i++) {
            x.tag(i, i << 14 << 16, i < 2 ? 1 : 3);
        }
        x.begin(0, 0, 0, 0, TREE);
        x.begin(1, 0, 0, 0, SLOTS);
        x.tick(5);
        DUE.is("READ", x.reader(0, 12), 2);
        DUE.is("MISSED", x.reader(0, 16), 2);
        DUE.is("OVER", x.reader(0, 1), 0);
        DUE.is("JAMMED, each in 5 TICKS", x.count(11), 10);
        // 000 .. of the two at 00, 01: 1 was EMPTY.
        DUE.is("LEARNT", x.reader(0, 18), 3);
        DUE.is("1 was EMPTY", x.learnt(0, 2, 2), 1);
        x.begin(0, 0, 0, 0, SLOTS);
        DUE.is("MISSED of the latest", x.reader(0, 16), 0);
    }

    private static void severalReaders() {
        DUE.part("several READERS");
        TagReaders x = new TagReaders();
        for (int i = 0; i < 4; i++) {
            x.power(i, true);
            x.tune(i, 2, i);
            x.tag(2 * i, 2 * i << 16, 15);
            x.tag(2 * i + 1, 2 * i + 1 << 16, 1 << i);
        }
        DUE.is("0 has all its own", x.begin(0, 0, 0, 0, TREE), 5);
        DUE.is("1 has the other", x.begin(1, 0, 0, 0, TREE), 1);
        DUE.is("2 has the other", x.begin(2, 0, 0, 0, FRAMES), 1);
        DUE.is("3 has the other", x.begin(3, 0, 0, 0, SLOTS), 1);
        DUE.is("look(9)", x.look(9), 15);
        DUE.is("BUSY", x.look(6), 8);
        DUE.is("with 0", x.tagOf(6, 6), 0);
        DUE.is("with 3", x.tagOf(7, 6), 3);
        x.tick(1);
        DUE.is("by numbers", x.log(0, 1), 3);
        DUE.is("by numbers", x.log(1, 1), 2);
        DUE.is("by numbers: OVER", x.log(2, 1) * 10 + x.log(2, 2), 14);
        DUE.is("by numbers: SINGLE", x.log(3, 1) * 10 + x.log(3, 2), 12);
        DUE.is("by numbers", x.log(4, 1), 0);
        x.tick(40);
        DUE.is("READ by 0", x.reader(0, 12), 5);
        DUE.is("none JAMMED", x.count(11), 0);
    }

    private static void lastsInThought() {
        DUE.part("promise 25");
        TagReaders x = with(3, 0x0000, 0x4000, 0x8000, 0xC000);
        DUE.is("IDLE", x.lasts(0), 0);
        DUE.is("lasts(4)", x.lasts(4), NONE);
        DUE.is("lasts(-1)", x.lasts(-1), NONE);
        x.begin(0, 0, 0, 0, TREE);
        x.state(5);
        DUE.is("7 QUERIES", x.lasts(0), 7);
        DUE.is("again", x.lasts(0), 7);
        DUE.is("nothing stays", x.look(0) + x.count(0) + x.reader(0, 12), 0);
        DUE.is("log", x.look(10), 1);
        x.tick(3);
        DUE.is("4 more", x.lasts(0), 4);
        x.tick(3);
        DUE.is("not OVER yet", x.reader(0, 1), 1);
        x.tick(1);
        DUE.is("OVER", x.reader(0, 1), 0);
        DUE.is("IDLE", x.lasts(0), 0);
        x.select(0, 0, 1, 0, 0, 0);
        x.begin(0, 0, 0, 0, SLOTS);
        x.state(77);
        int thought = x.lasts(0);
        for (int i = 1; i < thought; i++) {
            x.tick(1);
            DUE.is("TAKES STOCK yet", x.reader(0, 1), 1);
        }
        x.tick(1);
        DUE.is("IDLE by then", x.reader(0, 1), 0);
        TagReaders y = with(3, 1, 2, 3, 4);
        y.move(0, 3);
        y.tune(0, 0, 64);
        y.tune(0, 1, 1);
        y.tune(1, 0, 64);
        y.tune(1, 1, 1);
        y.begin(0, 0, 0, 0, SLOTS);
        y.begin(1, 0, 0, 0, SLOTS);
        y.lasts(0);
        DUE.is("STATE stays", y.look(1), stateAfter(0, 4));
        TagReaders z = stuck();
        DUE.is("more than 500", z.lasts(0), NONE);
        z.stop(1);
        DUE.is("now it can be", z.lasts(0) > 0, true);
    }

    private static int stateAfter(int state, int draws) {
        int now = state;
        for (int i = 0; i < draws; i++) {
            now = Draws.next(now);
        }
        return now;
    }

    /** Two READERS by SLOTS that both have a TAG which the other one reaches: none is ever READ. */
    private static TagReaders stuck() {
        TagReaders x = with(3, 1, 0x8001);
        x.move(1, 1);
        x.begin(0, 0, 0, 0, SLOTS);
        x.stop(0);
        x.select(0, 4, 0, 0, 1, 0);
        x.begin(0, 0, 0, 1, SLOTS);
        x.move(1, 3);
        x.begin(1, 0, 0, 0, SLOTS);
        return x;
    }

    private static void wouldHaveAndQueries() {
        DUE.part("promises 23, 24");
        TagReaders x = with(1, 0x0000, 0x0001, 0x8000, 0xC000);
        x.tag(4, 0x1234 << 16, 2);
        x.select(0, 4, 1, 0, 1, 1);
        x.select(0, 2, 5, 15, 1, 1);
        DUE.is("all", x.wouldHave(0, 0, 0, 0), 4);
        DUE.is("QUERIES", x.queries(0, 0, 0, 0), 1 + 2 * 17);
        DUE.is("SELECTED", x.wouldHave(0, 0, 0, 1), 2);
        DUE.is("QUERIES", x.queries(0, 0, 0, 1), 5);
        DUE.is("not SELECTED", x.wouldHave(0, 0, 0, 2), 2);
        DUE.is("QUERIES", x.queries(0, 0, 0, 2), 1 + 2 * 16);
        DUE.is("SESSION 2 B", x.wouldHave(0, 2, 1, 0), 1);
        DUE.is("QUERIES of one", x.queries(0, 2, 1, 0), 1);
        DUE.is("QUERIES of none", x.queries(0, 3, 1, 0), 1);
        DUE.is("a READER that is not ON", x.wouldHave(1, 0, 0, 0), 1);
        DUE.is("one that reaches none", x.wouldHave(2, 0, 0, 0), 0);
        x.begin(0, 0, 0, 1, TREE);
        DUE.is("not IDLE; BUSY ones aside", x.wouldHave(0, 0, 0, 0), 2);
        DUE.is("QUERIES likewise", x.queries(0, 0, 0, 0), 1 + 2 * 16);
        int[][] wrong = {{4, 0, 0, 0}, {-1, 0, 0, 0}, {0, 4, 0, 0}, {0, -1, 0, 0}, {0, 0, 2, 0}, {0, 0, -1, 0},
            {0, 0, 0, 3}, {0, 0, 0, -1}};
        for (int[] a : wrong) {
            DUE.is("wouldHave", x.wouldHave(a[0], a[1], a[2], a[3]), NONE);
            DUE.is("queries", x.queries(a[0], a[1], a[2], a[3]), NONE);
        }
    }

    private static void prefixes() {
        DUE.part("promise 17");
        TagReaders x = with(1, 0x0000, 0x0001);
        DUE.is("IDLE", x.prefix(0, 0, 0), NONE);
        x.begin(0, 0, 0, 0, TREE);
        DUE.is("none of bits", x.prefix(0, 0, 0), 0);
        DUE.is("none of bits", x.prefix(0, 0, 1), 0);
        DUE.is("one alone", x.prefix(0, 1, 0), NONE);
        x.tick(16);
        DUE.is("row", x.reader(0, 11), 17);
        DUE.is("first: all 16", x.prefix(0, 0, 0), 16);
        DUE.is("first", x.prefix(0, 0, 1), 0);
        DUE.is("second", x.prefix(0, 1, 1), 1);
        DUE.is("third", x.prefix(0, 2, 0), 15);
        DUE.is("last", x.prefix(0, 16, 0), 1);
        DUE.is("last", x.prefix(0, 16, 1), 1);
        int[][] wrong = {{0, 17, 0}, {0, -1, 0}, {0, 0, 2}, {0, 0, -1}, {4, 0, 0}, {-1, 0, 0}, {1, 0, 0}};
        for (int[] a : wrong) {
            DUE.is("prefix(" + a[0] + ", " + a[1] + ", " + a[2] + ")", x.prefix(a[0], a[1], a[2]), NONE);
        }
    }

    private static void readAndBoth() {
        DUE.part("promises 22, 34");
        TagReaders x = with(3, 0x8000, 0x4000, 0x0000);
        x.begin(0, 0, 0, 0, TREE);
        x.tick(5);
        DUE.is("first", x.read(0, 0), 2);
        DUE.is("second", x.read(0, 1), 1);
        DUE.is("third", x.read(0, 2), 0);
        DUE.is("no fourth", x.read(0, 3), NONE);
        int[][] wrong = {{0, -1}, {4, 0}, {-1, 0}, {1, 0}, {0, 24}, {0, Integer.MAX_VALUE}};
        for (int[] a : wrong) {
            DUE.is("read(" + a[0] + ", " + a[1] + ")", x.read(a[0], a[1]), NONE);
        }
        DUE.is("both yet", x.both(0, 1), 0);
        x.begin(1, 1, 0, 0, TREE);
        x.tick(4);
        DUE.is("two by both", x.both(0, 1), 2);
        DUE.is("likewise", x.both(1, 0), 2);
        x.tick(40);
        DUE.is("three by both", x.both(0, 1), 3);
        x.gone(2);
        DUE.is("that are there", x.both(0, 1), 2);
        DUE.is("who went was READ", x.read(0, 0), 2);
        x.gone(0);
        DUE.is("0 went, too", x.both(0, 1), 1);
        x.begin(0, 0, 0, 0, TREE);
        DUE.is("the latest alone", x.both(0, 1), 0);
        DUE.is("read of the latest", x.read(0, 0), NONE);
        DUE.is("one", x.both(1, 1), NONE);
        DUE.is("both(0, 4)", x.both(0, 4), NONE);
        DUE.is("both(-1, 0)", x.both(-1, 0), NONE);
    }

    private static void shares() {
        DUE.part("promise 16");
        TagReaders x = with(1, 0x0000, 0x4000, 0x8000);
        x.begin(0, 0, 0, 0, TREE);
        DUE.is("none yet, above", x.reader(0, 19), 0);
        DUE.is("none yet, below", x.reader(0, 20), 1);
        x.tick(2);
        DUE.is("0 by 2, above", x.reader(0, 19), 0);
        DUE.is("0 by 2, below", x.reader(0, 20), 1);
        x.tick(2);
        DUE.is("2 by 4, above", x.reader(0, 19), 1);
        DUE.is("2 by 4, below", x.reader(0, 20), 2);
        x.tick(1);
        DUE.is("3 by 5, above", x.reader(0, 19), 3);
        DUE.is("3 by 5, below", x.reader(0, 20), 5);
        DUE.is("q: no SLOTS yet", x.reader(0, 8), 0);
        x.begin(0, 0, 0, 0, FRAMES);
        x.stop(0);
        x.begin(0, 3, 1, 2, TREE);
        DUE.is("q of the latest FRAMES", x.reader(0, 8), 2);
        readers(x, 0, 4, 3, 1, 2, 1);
        DUE.is("FRAMES of the latest", x.reader(0, 15), 0);
        int[][] wrong = {{4, 0}, {-1, 0}, {0, 21}, {0, -1}, {4, 10}};
        for (int[] a : wrong) {
            DUE.is("reader(" + a[0] + ", " + a[1] + ")", x.reader(a[0], a[1]), NONE);
        }
    }

    private static void logKeepsSixty() {
        DUE.part("promise 37");
        TagReaders x = with(1);
        DUE.is("none", x.log(0, 0), NONE);
        for (int i = 0; i < 59; i++) {
            x.tick(1);
            x.select(0, 4, 0, 0, 0, 0);
        }
        DUE.is("first of 59", x.log(58, 0), 1);
        DUE.is("no 60th", x.log(59, 0), NONE);
        x.tick(1);
        x.select(0, 4, 0, 0, 0, 0);
        DUE.is("first of 60", x.log(59, 0), 1);
        x.tick(1);
        x.select(0, 4, 0, 0, 0, 0);
        line(x, 0, 61, 0, 6, 0);
        DUE.is("first of the latest 60", x.log(59, 0), 2);
        DUE.is("no line 60", x.log(60, 0), NONE);
        DUE.is("all that came", x.look(10), 61);
        DUE.is("log(-1, 0)", x.log(-1, 0), NONE);
        DUE.is("log(0, 4)", x.log(0, 4), NONE);
        DUE.is("log(0, -1)", x.log(0, -1), NONE);
    }

    /** What never is, as it is told, and as it can be seen from outside in runs of trees. */
    private static void never() {
        DUE.part("promise 38");
        TagReaders x = with(3);
        for (int i = 0; i < 24; i++) {
            x.tag(i, i * 2654 << 16, 1 + i % 3);
        }
        for (int round = 0; round < 40; round++) {
            int reader = round % 2;
            x.select(reader, 0, 1, 0, 0, 0);
            x.select(reader, 4, round % 8, round % 16, 2, round);
            int queries = x.queries(reader, 0, 0, round % 3);
            int of = x.begin(reader, 0, 0, round % 3, TREE);
            for (int i = 0; i < 24; i++) {
                DUE.is("BUSY is reached", x.tagOf(i, 6) == NONE || (x.tagOf(i, 8) >> x.tagOf(i, 6) & 1) == 1, true);
            }
            DUE.is("as long as QUERIES", x.lasts(reader), queries);
            for (int i = 0; i < 5; i++) {
                x.tick(40);
            }
            DUE.is("READ all of it", x.reader(reader, 12), of);
            DUE.is("BUSY with none", x.look(6), 0);
        }
        for (int what = 0; what < 3; what++) {
            DUE.is("never(" + what + ")", x.never(what), 0);
        }
        DUE.is("never(3)", x.never(3), NONE);
        DUE.is("never(-1)", x.never(-1), NONE);
    }

    private static void counts() {
        DUE.part("promise 39");
        TagReaders x = with(3, 0x0000, 0x4000, 0x8000);
        x.begin(0, 0, 0, 0, TREE);
        x.tick(5);
        x.select(1, 4, 0, 0, 1, 0);
        x.put(0, 1, 20, 4, 9);
        x.begin(1, 0, 1, 0, TREE);
        x.move(2, 1);
        x.begin(0, 2, 0, 0, SLOTS);
        x.tick(2);
        x.stop(1);
        x.power(0, false);
        x.power(1, false);
        // TREE of 3: 5 QUERIES; then 1 of READER 1, which none hears, and 2 SLOTS of READER 0.
        DUE.is("SLOTS and QUERIES", x.count(0), 8);
        DUE.is("EMPTY", x.count(1), x.reader(0, 13) + x.reader(1, 13));
        DUE.is("SINGLE", x.count(2), x.reader(0, 12) + 3);
        DUE.is("CLASHES", x.count(3), 2);
        DUE.is("all of these", x.count(1) + x.count(2) + x.count(3), 8);
        DUE.is("FRAMES begun", x.count(4), x.reader(0, 15));
        DUE.is("OVER", x.count(5), 2);
        DUE.is("BROKEN", x.count(6), 1);
        DUE.is("LOST", x.count(7), 1);
        DUE.is("READ turned to B", x.count(8), 3 + (x.tagOf(2, 9) > 1 ? 1 : 0));
        DUE.is("FADED", x.count(9), 3);
        DUE.is("SELECTS", x.count(10), 1);
        DUE.is("JAMMED: 0 and 1, by READER 0, in one TICK", x.count(11), 2);
        DUE.is("MISSED", x.count(12), 2);
        DUE.is("PUTS", x.count(13), 1);
        DUE.is("count(14)", x.count(14), NONE);
        DUE.is("count(-1)", x.count(-1), NONE);
    }
}
