import java.util.Random;

/**
 * Promise 38, counted once more from outside, TICK by TICK in long runs in which TAGS go, are moved and are
 * JAMMED: the three that never are, and that never(..) says so.
 */
public final class NeverTest {
    private static final Due DUE = new Due();
    private static final int READERS = 4;
    private static final int TAGS = 24;
    private static final int BEGAN = 0;
    private static final int SINGLE = 2;
    private static final int OVER = 4;

    private final TagReaders x = new TagReaders();
    private final Random chance;
    // By READERS: TAGS of it not yet READ, QUERIES as it began, whether a TAG of it went, was moved or JAMMED.
    private final int[] of = new int[READERS];
    private final int[] queries = new int[READERS];
    private final boolean[] disturbed = new boolean[READERS];
    private int undisturbedTrees = 0;
    private int disturbedTrees = 0;
    private int reads = 0;

    private NeverTest(int seed) {
        chance = new Random(seed);
    }

    public static void main(String[] args) {
        int undisturbedTrees = 0;
        int disturbedTrees = 0;
        int reads = 0;
        for (int seed = 1; seed <= 60; seed++) {
            NeverTest run = new NeverTest(seed);
            run.go(seed);
            undisturbedTrees += run.undisturbedTrees;
            disturbedTrees += run.disturbedTrees;
            reads += run.reads;
        }
        DUE.part("something was looked at");
        DUE.is("TREES of which no TAG was disturbed", undisturbedTrees > 100, true);
        DUE.is("other TREES", disturbedTrees > 100, true);
        DUE.is("READ", reads > 1000, true);
        DUE.end();
    }

    private void go(int seed) {
        for (int i = 0; i < 500; i++) {
            DUE.part("seed " + seed + ", call " + i);
            act();
            nobodyIsLeftBusy();
        }
        for (int what = 0; what < 3; what++) {
            DUE.is("never(" + what + ")", x.never(what), 0);
        }
    }

    private void act() {
        int reader = chance.nextInt(READERS);
        int tag = chance.nextInt(TAGS);
        switch (chance.nextInt(16)) {
            case 0:
                x.power(reader, chance.nextInt(20) > 0);
                break;
            case 1:
                disturb(tag);
                x.gone(tag);
                leaveItsReader(tag);
                break;
            case 2:
                disturb(tag);
                x.move(tag, chance.nextInt(16));
                leaveItsReader(tag);
                break;
            case 3:
                x.tune(reader, 2, chance.nextInt(4));
                break;
            case 4:
                x.stop(reader);
                break;
            case 5:
            case 6:
            case 7:
                x.tag(tag, chance.nextInt(), 1 + chance.nextInt(15));
                break;
            case 8:
            case 9:
            case 10:
                begin(reader, chance.nextInt(4), chance.nextInt(2), chance.nextInt(4));
                break;
            default:
                for (int n = chance.nextInt(20); n >= 0; n--) {
                    tick();
                }
                break;
        }
    }

    private void disturb(int tag) {
        int reader = x.tagOf(tag, 6);
        if (reader >= 0) {
            disturbed[reader] = true;
        }
    }

    private void leaveItsReader(int tag) {
        for (int reader = 0; reader < READERS; reader++) {
            of[reader] &= x.tagOf(tag, 6) == reader ? -1 : ~(1 << tag);
        }
    }

    private void begin(int reader, int session, int target, int mode) {
        int due = x.queries(reader, session, target, 0);
        if (x.begin(reader, session, target, 0, mode) < 0) {
            return;
        }
        DUE.is("it began", x.log(0, 2), BEGAN);
        queries[reader] = due;
        disturbed[reader] = false;
        of[reader] = 0;
        for (int tag = 0; tag < TAGS; tag++) {
            of[reader] |= x.tagOf(tag, 6) == reader ? 1 << tag : 0;
        }
    }

    private void tick() {
        for (int tag = 0; tag < TAGS; tag++) {
            if (x.jammed(tag) == 1) {
                disturb(tag);
            }
        }
        int lines = x.look(10);
        x.tick(1);
        for (int i = x.look(10) - lines - 1; i >= 0; i--) {
            look(x.log(i, 1), x.log(i, 2), x.log(i, 3));
        }
    }

    private void look(int reader, int what, int number) {
        if (what == SINGLE) {
            reads++;
            DUE.is("TAG " + number + " was of READER " + reader + ", not yet READ", of[reader] >> number & 1, 1);
            of[reader] &= ~(1 << number);
        }
        if (what == OVER && x.reader(reader, 7) == 1) {
            undisturbedTrees += disturbed[reader] ? 0 : 1;
            disturbedTrees += disturbed[reader] ? 1 : 0;
            int asked = x.reader(reader, 12) + x.reader(reader, 13) + x.reader(reader, 14);
            DUE.is("QUERIES", disturbed[reader] || asked == queries[reader], true);
        }
    }

    private void nobodyIsLeftBusy() {
        for (int tag = 0; tag < TAGS; tag++) {
            int reader = x.tagOf(tag, 6);
            if (reader >= 0) {
                DUE.is("READER " + reader + " of TAG " + tag + " TAKES STOCK", x.reader(reader, 1), 1);
                DUE.is("and reaches it", x.tagOf(tag, 8) >> reader & 1, 1);
            }
        }
    }
}
