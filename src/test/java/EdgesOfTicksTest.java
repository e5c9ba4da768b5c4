/** The edges that Terms 3 name for SLOTS, FRAMES, JAMMED TAGS and what is done by hand, with promise 13: a sentence a method. */
public final class EdgesOfTicksTest {
    private static final Due DUE = new Due();
    private static final Edge EDGE = new Edge(DUE);
    private static final int NONE = Edge.NONE;

    public static void main(String[] args) {
        tickPromise();
        readersByNumbers();
        jammedByAnother();
        jammedAsItBegins();
        jammedOncePerTick();
        jammedSlotStays();
        jammedAtZeroHasDraws();
        jammedPromise();
        emptyIsStepLess();
        singleLeavesQf();
        clashIsStepMore();
        clashedHaveNoSlot();
        anotherQ();
        anotherQByTune();
        anotherQWithNobodyLeft();
        lastSlotSameQ();
        notTheLastSlot();
        lastSlotIsOver();
        frameOfOneSlot();
        framesOfNobody();
        framesLeaveQf();
        framesByGuess();
        framesGuessNotAbove();
        framesNoGuess();
        readIsTheOtherOne();
        overMisses();
        overMissesAll();
        fadeBehindRead();
        turnedOff();
        turnedOn();
        goesWhileBusy();
        movedWhileBusy();
        session0AtOnce();
        DUE.end();
    }

    private static void tickPromise() {
        DUE.part("promise 13: n TICKS (1 .. 40): TICK; NONE, and nothing is done, if n can't be");
        TagReaders x = Edge.full(1);
        x.begin(0, 0, 0, 0, Edge.SLOTS);
        for (int n : new int[] {0, -1, 41, Edge.LEAST, Edge.MOST}) {
            EDGE.refused(x, "tick(" + n + ")", () -> x.tick(n), NONE);
        }
        DUE.is("tick(1)", x.tick(1), 1);
        DUE.is("one SLOT is gone", x.count(0), 1);
        DUE.is("tick(40)", x.tick(40), 41);
        DUE.is("40 more are gone, or it is OVER", x.count(0) == 41 || x.count(5) == 1, true);
    }

    private static void readersByNumbers() {
        DUE.part("Terms 3: a TICK: it is one more. (a) READERS that TAKE STOCK, by numbers, each");
        TagReaders x = Edge.with(15, 1);
        for (int r = 3; r >= 0; r--) {
            x.begin(r, 1, 1, 0, Edge.TREE);
        }
        x.tick(1);
        for (int r = 0; r < 4; r++) {
            EDGE.line(x, 7 - 2 * r, 1, r, 1, 0);
            EDGE.line(x, 6 - 2 * r, 1, r, 4, 0);
        }
        DUE.is("none TAKES STOCK", x.look(9), 0);
        x.tick(1);
        DUE.is("IDLE ones do nothing", x.look(10), 12);
    }

    /** TAG 0 is reached by READERS 0 and 1, TAG 1 by 0 alone; READER 0 has both by a TREE. */
    private static TagReaders nearlyJammed() {
        TagReaders x = Edge.with(3, 0x0000, 0x8000);
        x.move(1, 1);
        x.begin(0, 0, 0, 0, Edge.TREE);
        return x;
    }

    private static void jammedByAnother() {
        DUE.part("Terms 3: JAMMED, if another READER that TAKES STOCK has the CHANNEL of its own one and reaches it");
        TagReaders x = nearlyJammed();
        DUE.is("the other is IDLE", x.jammed(0), 0);
        x.begin(1, 1, 1, 0, Edge.SLOTS);
        DUE.is("it TAKES STOCK", x.jammed(0), 1);
        DUE.is("but does not reach", x.jammed(1), 0);
        for (int channel = 1; channel <= 3; channel++) {
            x.tune(1, 2, channel);
            DUE.is("another CHANNEL", x.jammed(0), 0);
            x.tune(0, 2, channel);
            DUE.is("one CHANNEL", x.jammed(0), 1);
        }
        x.stop(1);
        DUE.is("IDLE again", x.jammed(0), 0);
        x.tick(1);
        EDGE.line(x, 0, 1, 0, 3, 2);
        DUE.is("none was", x.count(11), 0);
    }

    private static void jammedAsItBegins() {
        DUE.part("Terms 3: another READER that TAKES STOCK as (a) begins");
        // READER 0 is OVER in TICK 1, before READER 1 asks: all the same.
        TagReaders x = Edge.with(3, 1);
        x.begin(1, 0, 0, 0, Edge.SLOTS);
        x.tune(1, 0, 0);
        x.begin(0, 1, 1, 0, Edge.TREE);
        x.tick(1);
        DUE.is("READER 0 is OVER", x.reader(0, 1), 0);
        DUE.is("JAMMED", x.count(11), 1);
        DUE.is("not READ", x.tagOf(0, 9), 0);
        // READER 1 is OVER in TICK 1, behind READER 0.
        TagReaders y = Edge.with(3, 1);
        y.begin(0, 0, 0, 0, Edge.TREE);
        y.begin(1, 1, 1, 0, Edge.TREE);
        y.tick(1);
        DUE.is("READER 1 is OVER", y.reader(1, 1), 0);
        DUE.is("JAMMED", y.count(11), 1);
        DUE.is("MISSED", y.reader(0, 16), 1);
        y.begin(0, 0, 0, 0, Edge.TREE);
        y.tick(1);
        DUE.is("not JAMMED a TICK later", y.tagOf(0, 9), 1);
        DUE.is("JAMMED", y.count(11), 1);
    }

    private static void jammedOncePerTick() {
        DUE.part("promise 39: how often a TAG was JAMMED (each TICK)");
        TagReaders x = Edge.with(15, 1, 2);
        x.begin(0, 0, 0, 0, Edge.SLOTS);
        for (int r = 1; r < 4; r++) {
            x.begin(r, 1, 1, 0, Edge.SLOTS);
        }
        x.tick(1);
        DUE.is("two TAGS, by three READERS each", x.count(11), 2);
        x.tick(1);
        DUE.is("one TICK more", x.count(11), 4);
        x.gone(1);
        x.tick(1);
        DUE.is("one TAG", x.count(11), 5);
        x.tune(0, 2, 1);
        x.tick(1);
        DUE.is("none", x.count(11), 5);
    }

    private static void jammedSlotStays() {
        DUE.part("Terms 3: it hears nothing (no ANSWER, its SLOT stays)");
        // DRAWS of 4 from STATE 0: 3, 1, 2, then 3.
        TagReaders x = Edge.with(3, 1, 2, 3);
        x.move(1, 1);
        x.move(2, 1);
        x.tune(0, 0, 16);
        x.begin(0, 0, 0, 0, Edge.SLOTS);
        x.begin(1, 1, 1, 0, Edge.TREE);
        EDGE.slots(x, 3, 1, 2);
        x.tick(1);
        EDGE.slots(x, 3, 0, 1);
        DUE.is("JAMMED", x.count(11), 1);
        x.tick(1);
        EDGE.slots(x, 2, NONE, 0);
        x.tick(1);
        EDGE.slots(x, 1, NONE, NONE);
        x.tick(1);
        DUE.is("it came too late: EMPTY", x.log(0, 2), 1);
        EDGE.slots(x, 3, NONE, NONE);
        EDGE.reader(x, 0, 8, 2, 0, 1, 0, 2, 2, 0, 2, 0);
    }

    private static void jammedAtZeroHasDraws() {
        DUE.part("Terms 3: DRAWS it has all the same");
        TagReaders x = Edge.with(3, 1);
        x.tune(0, 0, 0);
        x.begin(0, 0, 0, 0, Edge.SLOTS);
        x.begin(1, 1, 1, 0, Edge.TREE);
        DUE.is("SLOT 0", x.tagOf(0, 7), 0);
        x.tick(1);
        EDGE.line(x, 2, 1, 0, 1, 0);
        DUE.is("a new FRAME, a DRAW", x.reader(0, 15), 2);
        DUE.is("STATE", x.look(1), 0x47502932);
        DUE.is("SLOT 0", x.tagOf(0, 7), 0);
        x.tick(1);
        EDGE.line(x, 1, 2, 0, 2, 0);
        EDGE.line(x, 0, 2, 0, 4, 1);
        // A SLOT that is 0 stays in the FRAME: it ANSWERS in the next one.
        TagReaders y = Edge.with(3, 1);
        y.tune(0, 0, 8);
        y.tune(0, 1, 1);
        y.state(Draws.stateFor(2, 0));
        y.begin(0, 0, 0, 0, Edge.SLOTS);
        y.begin(1, 1, 1, 0, Edge.TREE);
        y.tick(1);
        DUE.is("SLOT 0 yet", y.tagOf(0, 7), 0);
        DUE.is("same FRAME", y.reader(0, 9), 1);
        y.tick(1);
        EDGE.line(y, 1, 2, 0, 2, 0);
        EDGE.line(y, 0, 2, 0, 4, 1);
    }

    private static void jammedPromise() {
        DUE.part("promise 19: NONE if it is not BUSY, or there is none such");
        TagReaders x = nearlyJammed();
        x.tag(2, Edge.memory(3, 0), 2);
        for (int tag : new int[] {2, 3, -1, 24, Edge.LEAST, Edge.MOST}) {
            DUE.is("jammed(" + tag + ")", x.jammed(tag), NONE);
        }
        x.begin(1, 0, 0, 0, Edge.SLOTS);
        DUE.is("TAG 2 is BUSY, READER 0 does not reach it", x.jammed(2), 0);
        DUE.is("TAG 0", x.jammed(0), 1);
        x.move(2, 3);
        DUE.is("TAG 2 is reached by both", x.jammed(2), 1);
        x.stop(0);
        DUE.is("not BUSY any more", x.jammed(0), NONE);
        DUE.is("TAG 2", x.jammed(2), 0);
    }

    private static void emptyIsStepLess() {
        DUE.part("Terms 3: nobody: EMPTY: QF is STEP less (0 at least)");
        int[][] due = {{0, 1, 0}, {1, 1, 0}, {1, 2, 0}, {7, 8, 0}, {8, 8, 0}, {9, 8, 1}, {64, 1, 63}, {64, 8, 56}, {32, 2, 30}};
        for (int[] d : due) {
            TagReaders x = Edge.on(1);
            x.tune(0, 0, d[0]);
            x.tune(0, 1, d[1]);
            x.begin(0, 0, 0, 0, Edge.SLOTS);
            x.tick(1);
            DUE.is("QF " + d[0] + ", STEP " + d[1], x.reader(0, 2), d[2]);
            DUE.is("EMPTY", x.reader(0, 13), 1);
            DUE.is("count(1)", x.count(1), 1);
        }
    }

    private static void singleLeavesQf() {
        DUE.part("Terms 3: one: SINGLE: it is READ (QF stays)");
        for (int qf = 0; qf <= 3; qf++) {
            TagReaders x = Edge.with(1, 1);
            x.tune(0, 0, qf);
            x.begin(0, 0, 0, 0, Edge.SLOTS);
            x.tick(1);
            DUE.is("QF", x.reader(0, 2), qf);
            EDGE.line(x, 1, 1, 0, 2, 0);
            EDGE.line(x, 0, 1, 0, 4, 1);
            DUE.is("FRAMES", x.reader(0, 15), 1);
        }
    }

    private static void clashIsStepMore() {
        DUE.part("Terms 3: more: a CLASH: QF is STEP more (64 at most)");
        int[][] due = {{64, 1, 64}, {64, 8, 64}, {63, 1, 64}, {63, 2, 64}, {57, 8, 64}, {56, 8, 64}, {55, 8, 63}, {0, 8, 8}, {0, 1, 1}};
        for (int[] d : due) {
            TagReaders x = Edge.with(1, 1, 2);
            x.tune(0, 0, d[0]);
            x.tune(0, 1, d[1]);
            x.state(Draws.stateFor(1 << (d[0] + 4) / 8, 0, 0));
            x.begin(0, 0, 0, 0, Edge.SLOTS);
            x.tick(1);
            EDGE.line(x, 0, 1, 0, 3, 2);
            DUE.is("QF " + d[0] + ", STEP " + d[1], x.reader(0, 2), d[2]);
        }
        TagReaders y = Edge.full(1);
        y.tune(0, 0, 0);
        y.begin(0, 0, 0, 0, Edge.SLOTS);
        y.tick(1);
        EDGE.line(y, 0, 1, 0, 3, 24);
        DUE.is("a CLASH of 24 is one", y.count(3), 1);
    }

    private static void clashedHaveNoSlot() {
        DUE.part("Terms 3: a CLASH: these have no SLOT any more");
        TagReaders x = Edge.with(1, 1, 2, 3);
        x.tune(0, 0, 16);
        x.tune(0, 1, 1);
        x.state(Draws.stateFor(4, 0, 3, 0));
        x.begin(0, 0, 0, 0, Edge.SLOTS);
        x.tick(1);
        EDGE.slots(x, NONE, 2, NONE);
        DUE.is("of it yet", x.reader(0, 10), 3);
        x.tick(2);
        EDGE.slots(x, NONE, 0, NONE);
        DUE.is("they do not ANSWER", x.reader(0, 13), 2);
        x.state(Draws.stateFor(4, 1, 2));
        x.tick(1);
        EDGE.line(x, 0, 4, 0, 2, 1);
        EDGE.slots(x, 1, NONE, 2);
    }

    private static void anotherQ() {
        DUE.part("Terms 3: has QF another q now: q is that one, a new FRAME begins (all TAGS of it that are left have a DRAW)");
        // Down: QF 28 is q 4, 27 is q 3.
        TagReaders x = Edge.with(1, 1, 2);
        x.tune(0, 0, 28);
        x.tune(0, 1, 1);
        x.state(Draws.stateFor(16, 5, 9));
        x.begin(0, 0, 0, 0, Edge.SLOTS);
        x.state(Draws.stateFor(8, 7, 4));
        x.tick(1);
        EDGE.reader(x, 0, 8, 3, 0, 2, 0, 0, 1, 0, 2, 0);
        EDGE.slots(x, 7, 4);
        // Not yet: QF 29 is q 4, 28, too.
        TagReaders y = Edge.with(1, 1, 2);
        y.tune(0, 0, 29);
        y.tune(0, 1, 1);
        y.state(Draws.stateFor(16, 5, 9));
        y.begin(0, 0, 0, 0, Edge.SLOTS);
        y.tick(1);
        EDGE.reader(y, 0, 8, 4, 1, 2, 0, 0, 1, 0, 1, 0);
        EDGE.slots(y, 4, 8);
        // Up: QF 11 is q 1, 12 is q 2; those that clashed have a DRAW, too.
        TagReaders z = Edge.with(1, 1, 2, 3);
        z.tune(0, 0, 11);
        z.tune(0, 1, 1);
        z.state(Draws.stateFor(2, 0, 0, 1));
        z.begin(0, 0, 0, 0, Edge.SLOTS);
        z.state(Draws.stateFor(4, 2, 0, 3));
        z.tick(1);
        EDGE.reader(z, 0, 8, 2, 0, 3, 0, 0, 0, 1, 2, 0);
        EDGE.slots(z, 2, 0, 3);
    }

    private static void anotherQByTune() {
        DUE.part("promise 4: (also while it TAKES STOCK; q goes by it behind the next SLOT alone)");
        TagReaders x = Edge.with(1, 1, 2);
        x.tune(0, 0, 16);
        x.state(Draws.stateFor(4, 0, 2));
        x.begin(0, 0, 0, 0, Edge.SLOTS);
        DUE.is("tuned", x.tune(0, 0, 64), true);
        DUE.is("q as before", x.reader(0, 8), 2);
        EDGE.slots(x, 0, 2);
        x.state(Draws.stateFor(256, 255));
        x.tick(1);
        EDGE.line(x, 0, 1, 0, 2, 0);
        EDGE.reader(x, 0, 8, 8, 0, 1, 0, 1, 0, 0, 2, 0);
        EDGE.slots(x, NONE, 255);
        x.tune(0, 0, 0);
        x.tick(1);
        EDGE.reader(x, 0, 8, 0, 0, 1, 0, 1, 1, 0, 3, 0);
        DUE.is("QF", x.reader(0, 2), 0);
        TagReaders y = Edge.with(1, 1, 2);
        y.begin(0, 0, 0, 0, Edge.FRAMES);
        y.tune(0, 0, 64);
        y.tick(1);
        DUE.is("not in FRAMES", y.reader(0, 8), 2);
    }

    private static void anotherQWithNobodyLeft() {
        DUE.part("Terms 3: another q: a new FRAME begins, if nobody is left, too");
        TagReaders x = Edge.with(1, 1);
        x.tune(0, 0, 4);
        x.tune(0, 1, 1);
        x.state(Draws.stateFor(2, 0));
        x.begin(0, 0, 0, 0, Edge.SLOTS);
        x.tick(1);
        EDGE.reader(x, 0, 8, 1, 1, 0, 0, 1, 0, 0, 1, 0);
        // The last SLOT: QF 3 is q 0.
        x.tick(1);
        EDGE.reader(x, 0, 8, 0, 0, 0, 0, 1, 1, 0, 2, 0);
        DUE.is("TAKES STOCK", x.reader(0, 1), 1);
        x.tick(1);
        EDGE.line(x, 0, 3, 0, 4, 1);
        EDGE.reader(x, 0, 8, 0, 0, 0, 0, 1, 2, 0, 2, 0);
    }

    private static void lastSlotSameQ() {
        DUE.part("Terms 3: was it the last one of the FRAME: are any left, a new FRAME begins (same q)");
        TagReaders x = Edge.with(1, 1, 2, 3);
        x.tune(0, 0, 8);
        x.tune(0, 1, 1);
        x.state(Draws.stateFor(2, 0, 1, 0));
        x.begin(0, 0, 0, 0, Edge.SLOTS);
        x.tick(1);
        EDGE.reader(x, 0, 8, 1, 1, 3, 0, 0, 0, 1, 1, 0);
        EDGE.slots(x, NONE, 0, NONE);
        x.state(Draws.stateFor(2, 1, 0));
        x.tick(1);
        EDGE.reader(x, 0, 8, 1, 0, 2, 0, 1, 0, 1, 2, 0);
        EDGE.slots(x, 1, NONE, 0);
        DUE.is("FRAMES begun", x.count(4), 2);
    }

    private static void notTheLastSlot() {
        DUE.part("Terms 3: not the last one: each SLOT above 0 that a TAG has is one less, if nobody is left it goes on");
        TagReaders x = Edge.with(1, 1);
        x.tune(0, 0, 16);
        x.tune(0, 1, 1);
        x.state(Draws.stateFor(4, 1));
        x.begin(0, 0, 0, 0, Edge.SLOTS);
        x.tick(1);
        DUE.is("SLOT 0", x.tagOf(0, 7), 0);
        x.tick(1);
        EDGE.reader(x, 0, 8, 2, 2, 0, 0, 1, 1, 0, 1, 0);
        DUE.is("not OVER", x.reader(0, 1), 1);
        x.tick(1);
        DUE.is("not OVER", x.reader(0, 1), 1);
        x.tick(1);
        EDGE.line(x, 0, 4, 0, 4, 1);
    }

    private static void lastSlotIsOver() {
        DUE.part("Terms 3: was it the last one of the FRAME: none left: it is OVER");
        TagReaders x = Edge.with(1, 1);
        x.tune(0, 0, 16);
        x.tune(0, 1, 1);
        x.state(Draws.stateFor(4, 3));
        x.begin(0, 0, 0, 0, Edge.SLOTS);
        x.tick(3);
        DUE.is("in the last SLOT", x.tagOf(0, 7), 0);
        x.tick(1);
        EDGE.line(x, 1, 4, 0, 2, 0);
        EDGE.line(x, 0, 4, 0, 4, 1);
        EDGE.reader(x, 0, 0, 1, 0, 13, 1, 0, 0, 0, 0, 2, 0, 0, 0, 1, 3, 0, 1, 0);
        DUE.is("OVER", x.count(5), 1);
    }

    private static void frameOfOneSlot() {
        DUE.part("Terms 3: a FRAME of one SLOT: each is the last one");
        TagReaders x = Edge.with(1, 1, 2);
        x.tune(0, 0, 0);
        x.tune(0, 1, 1);
        x.begin(0, 0, 0, 0, Edge.SLOTS);
        for (int tick = 1; tick <= 3; tick++) {
            x.tick(1);
            DUE.is("QF", x.reader(0, 2), tick);
            EDGE.reader(x, 0, 8, 0, 0, 2, 0, 0, 0, tick, tick + 1, 0);
            EDGE.slots(x, 0, 0);
        }
        // QF 4 is q 1.
        x.state(Draws.stateFor(2, 0, 1));
        x.tick(1);
        EDGE.reader(x, 0, 8, 1, 0, 2, 0, 0, 0, 4, 5, 0);
        x.tick(2);
        EDGE.line(x, 0, 6, 0, 4, 2);
    }

    private static void framesOfNobody() {
        DUE.part("Terms 3: FRAMES of nobody: four EMPTY SLOTS, then it is OVER");
        TagReaders x = Edge.on(1);
        x.begin(0, 0, 0, 0, Edge.FRAMES);
        x.tick(3);
        EDGE.reader(x, 0, 8, 2, 3, 0, 0, 0, 3, 0, 1, 0);
        x.tick(1);
        EDGE.reader(x, 0, 8, 2, 0, 0, 0, 0, 4, 0, 1, 0);
        EDGE.line(x, 0, 4, 0, 4, 0);
    }

    private static void framesLeaveQf() {
        DUE.part("Terms 3: FRAMES: likewise, but QF stays, q stays until the FRAME's last SLOT is gone");
        TagReaders x = Edge.with(1, 1, 2, 3);
        x.tune(0, 1, 8);
        x.state(Draws.stateFor(4, 1, 1, 3));
        x.begin(0, 0, 0, 0, Edge.FRAMES);
        int[] whats = {1, 3, 1};
        for (int slot = 0; slot < 3; slot++) {
            x.tick(1);
            DUE.is("what", x.log(0, 2), whats[slot]);
            DUE.is("QF", x.reader(0, 2), 32);
            DUE.is("q", x.reader(0, 8), 2);
            DUE.is("SLOTS gone", x.reader(0, 9), slot + 1);
        }
        EDGE.slots(x, NONE, NONE, 0);
        // 2 EMPTY, 1 SINGLE, 1 CLASH: n by 4 to the n, n 3 at least: GUESS 3; 2 above its SINGLES: BEST of 2 is 1.
        x.tick(1);
        DUE.is("QF", x.reader(0, 2), 32);
        EDGE.reader(x, 0, 8, 1, 0, 2, 0, 1, 2, 1, 2, 0);
    }

    private static void framesByGuess() {
        DUE.part("Terms 3: q is BEST of as many as GUESS by that FRAME is above its SINGLES");
        // 3 EMPTY, 1 CLASH: 4 by 4 to the n: GUESS 2, BEST of 2; of 4 TAGS, too.
        frame(2, 0, 1, 1);
        frame(4, 0, 1, 1);
        // 2 EMPTY, 2 CLASHES: (2 to the n - 2 - 2 n) by 4 to the n: 6 by 256, 20 by 1024: GUESS 4, BEST of 4.
        frame(4, 0, 2, 2);
        // 2 SINGLE, 2 CLASHES: of 6: 180 by 4096; 7: 840 by 16384; 8: 2800 by 65536: GUESS 7, BEST of 5.
        frame(6, 2, 2, 2);
        // 1 SINGLE, 3 CLASHES: of 9: 26460 by 4^9, 10: 115080 by 4^10, 11: 450450 by 4^11: GUESS 10, BEST of 9.
        frame(7, 1, 3, 3);
        // 4 CLASHES: the more, the likelier: GUESS 12, BEST of 12.
        frame(9, 0, 4, 4);
    }

    /** So many TAGS have a FRAME of 4 SLOTS with so many SINGLES and CLASHES: the next FRAME has that q. */
    private static void frame(int tags, int singles, int clashes, int q) {
        TagReaders x = Edge.on(1);
        for (int i = 0; i < tags; i++) {
            x.tag(i, Edge.memory(i, 0), 1);
        }
        x.state(Draws.stateByCounts(4, tags, singles, clashes));
        x.begin(0, 0, 0, 0, Edge.FRAMES);
        x.tick(4);
        EDGE.reader(x, 0, 12, singles, 4 - singles - clashes, clashes, 2);
        DUE.is("q of " + tags, x.reader(0, 8), q);
    }

    private static void framesGuessNotAbove() {
        DUE.part("Terms 3: (1, if it is not): GUESS is not above its SINGLES");
        // TAG 0 is JAMMED by READER 1, so the FRAME seems to have none: GUESS 0; BEST of 1 is q 0.
        TagReaders x = Edge.with(3, 1);
        x.begin(0, 0, 0, 0, Edge.FRAMES);
        x.begin(1, 1, 1, 0, Edge.FRAMES);
        x.tick(4);
        EDGE.reader(x, 0, 8, 0, 0, 1, 0, 0, 4, 0, 2, 0);
        DUE.is("READER 1 is OVER", x.reader(1, 1), 0);
        x.tick(1);
        EDGE.line(x, 0, 5, 0, 4, 1);
        // TAG 0 is JAMMED, TAG 1 READ: 3 EMPTY, 1 SINGLE: GUESS 1, as many as SINGLES.
        TagReaders y = Edge.with(3, 1, 2);
        y.move(1, 1);
        y.begin(0, 0, 0, 0, Edge.FRAMES);
        y.begin(1, 1, 1, 0, Edge.FRAMES);
        y.tick(4);
        EDGE.reader(y, 0, 8, 0, 0, 1, 0, 1, 3, 0, 2, 0);
    }

    private static void framesNoGuess() {
        DUE.part("Terms 3: is GUESS none: q is one more, 4 at most");
        TagReaders x = Edge.full(1);
        x.state(Draws.stateByCounts(4, 24, 1, 3));
        x.begin(0, 0, 0, 0, Edge.FRAMES);
        // 1 SINGLE, 3 CLASHES: q 3, as above. 8 CLASHES of 8 want 16 TAGS: none of 0 .. 12.
        x.state(Draws.stateByCounts(8, 23, 0, 8));
        x.tick(4);
        EDGE.reader(x, 0, 8, 3, 0, 23, 0, 1, 0, 3, 2, 0);
        x.state(Draws.stateByCounts(16, 23, 5, 7));
        x.tick(8);
        EDGE.reader(x, 0, 8, 4, 0, 23, 0, 1, 0, 11, 3, 0);
        // 5 SINGLE, 7 CLASHES want 19.
        x.tick(16);
        EDGE.reader(x, 0, 8, 4, 0, 18, 0, 6, 4, 18, 4, 0);
    }

    private static void readIsTheOtherOne() {
        DUE.part("Terms 3: READ: its FLAG of the SESSION is the other one; it is not BUSY any more");
        for (int session = 0; session < 4; session++) {
            for (int mode = 0; mode < 4; mode++) {
                TagReaders x = Edge.with(3, 1);
                x.tune(0, 0, 0);
                x.begin(0, session, 0, 0, mode);
                Edge.ticks(x, x.lasts(0));
                DUE.is("A is B", x.tagOf(0, session), 1);
                DUE.is("turned to B", x.count(8), 1);
                DUE.is("not BUSY", x.tagOf(0, 6), NONE);
                DUE.is("no SLOT", x.tagOf(0, 7), NONE);
                DUE.is("another may have it", x.begin(1, session, 1, 0, mode), 1);
                Edge.ticks(x, x.lasts(1));
                DUE.is("B is A", x.tagOf(0, session), 0);
                DUE.is("turned to A", x.count(8), 1);
                DUE.is("READ twice", x.tagOf(0, 9), 2);
                DUE.is("last by", x.tagOf(0, 10), 1);
                DUE.is("no other FLAG", x.tagOf(0, 0) + x.tagOf(0, 1) + x.tagOf(0, 2) + x.tagOf(0, 3) + x.tagOf(0, 4), 0);
            }
        }
    }

    private static void overMisses() {
        DUE.part("Terms 3: OVER: the READER is IDLE; TAGS of it that are left (JAMMED ones) are MISSED, not BUSY any more");
        TagReaders x = nearlyJammed();
        x.begin(1, 1, 1, 0, Edge.SLOTS);
        x.tick(1);
        EDGE.line(x, 2, 1, 0, 2, 1);
        EDGE.line(x, 1, 1, 0, 4, 1);
        DUE.is("MISSED", x.reader(0, 16), 1);
        DUE.is("count(12)", x.count(12), 1);
        DUE.is("not BUSY", x.tagOf(0, 6), NONE);
        DUE.is("its FLAG stays", x.tagOf(0, 0), 0);
        DUE.is("IDLE", x.look(9), 2);
        x.begin(0, 0, 0, 0, Edge.TREE);
        DUE.is("of the latest: none", x.reader(0, 16), 0);
        DUE.is("of all", x.count(12), 1);
    }

    private static void overMissesAll() {
        DUE.part("Terms 3: OVER: all 24 TAGS are MISSED");
        TagReaders x = Edge.full(3);
        x.begin(0, 0, 0, 0, Edge.TREE);
        x.begin(1, 1, 1, 0, Edge.TREE);
        x.tick(1);
        EDGE.line(x, 3, 1, 0, 1, 0);
        EDGE.line(x, 2, 1, 0, 4, 0);
        EDGE.reader(x, 0, 12, 0, 1, 0, 0, 24);
        DUE.is("JAMMED", x.count(11), 24);
        DUE.is("MISSED", x.count(12), 24);
        DUE.is("none BUSY", x.look(6), 0);
        EDGE.learnt(x, 0, "e");
    }

    private static void fadeBehindRead() {
        DUE.part("Terms 3: a TICK: (a) READERS, then (b) TAGS FADE");
        TagReaders x = Edge.with(1, 0x0000, 0x8000);
        x.set(0, 2);
        Edge.turnOn(x, 1);
        x.begin(0, 1, 1, 0, Edge.TREE);
        x.tick(2);
        DUE.is("TAG 0 was READ in TICK 2: A", x.tagOf(0, 1), 0);
        DUE.is("TAG 1 FADED in it", x.tagOf(1, 1), 0);
        DUE.is("one alone FADED", x.count(9), 1);
        DUE.is("none turned to B", x.count(8), 0);
    }

    private static void turnedOff() {
        DUE.part("Terms 3: a READER is turned off: BROKEN (IDLE); its TAGS are not BUSY any more");
        for (int mode = 0; mode < 4; mode++) {
            TagReaders x = Edge.with(3, 1, 2);
            x.begin(0, 2, 0, 0, mode);
            DUE.is("off", x.power(0, false), true);
            EDGE.line(x, 0, 0, 0, 5, 0);
            DUE.is("BROKEN", x.count(6), 1);
            DUE.is("not OVER", x.count(5), 0);
            DUE.is("not MISSED", x.count(12), 0);
            DUE.is("not LOST", x.count(7), 0);
            DUE.is("IDLE", x.reader(0, 1), 0);
            DUE.is("not BUSY", x.look(6), 0);
            EDGE.slots(x, NONE, NONE);
            EDGE.reader(x, 0, 9, 0, 0, 0);
            x.power(0, true);
            DUE.is("IDLE yet", x.reader(0, 1), 0);
            DUE.is("lines", x.look(10), 2);
        }
        TagReaders y = Edge.with(1, 1);
        y.power(0, false);
        DUE.is("IDLE: nothing is BROKEN", y.count(6) + y.look(10), 0);
    }

    private static void turnedOn() {
        DUE.part("Terms 3: a READER is turned ON: POWER at once");
        TagReaders x = Edge.with(0, 1, 2);
        x.move(0, 4);
        x.tick(7);
        DUE.is("without for", x.tagOf(0, 12), 7);
        x.power(2, true);
        DUE.is("POWER", x.tagOf(0, 5), 1);
        DUE.is("with: NONE", x.tagOf(0, 12), NONE);
        DUE.is("none for the other", x.tagOf(1, 5), 0);
        DUE.is("without for", x.tagOf(1, 12), 7);
        DUE.is("begins", x.begin(2, 0, 0, 0, Edge.TREE), 1);
        x.power(0, true);
        DUE.is("another one ON: goes on", x.reader(2, 1), 1);
    }

    private static void goesWhileBusy() {
        DUE.part("Terms 3: a TAG goes, being BUSY");
        TagReaders x = Edge.with(1, 0x0000, 0x8000);
        x.begin(0, 0, 0, 0, Edge.TREE);
        x.tick(1);
        x.gone(0);
        DUE.is("TAGS of it", x.reader(0, 10), 1);
        DUE.is("not LOST", x.count(7), 0);
        x.tick(1);
        EDGE.line(x, 0, 2, 0, 1, 0);
        x.gone(1);
        DUE.is("none left", x.reader(0, 10), 0);
        DUE.is("it goes on", x.reader(0, 1), 1);
        x.tick(1);
        EDGE.line(x, 1, 3, 0, 1, 0);
        EDGE.line(x, 0, 3, 0, 4, 0);
        DUE.is("not MISSED", x.count(12), 0);
    }

    private static void movedWhileBusy() {
        DUE.part("Terms 3: moved: is it BUSY with a READER that doesn't reach it then: it is LOST to it, not BUSY any more");
        TagReaders x = Edge.with(3, 0x0000, 0x8000, 0xC000);
        x.begin(0, 0, 0, 0, Edge.SLOTS);
        x.move(0, 1);
        DUE.is("reached yet", x.tagOf(0, 6), 0);
        DUE.is("not LOST", x.count(7), 0);
        x.move(0, 2);
        DUE.is("LOST", x.count(7), 1);
        DUE.is("not BUSY", x.tagOf(0, 6), NONE);
        DUE.is("no SLOT", x.tagOf(0, 7), NONE);
        DUE.is("TAGS of it", x.reader(0, 10), 2);
        x.move(0, 1);
        DUE.is("it does not come back", x.tagOf(0, 6), NONE);
        x.move(1, 0);
        DUE.is("LOST", x.count(7), 2);
        x.move(1, 15);
        x.move(1, 0);
        DUE.is("not BUSY: not LOST", x.count(7), 2);
        x.gone(2);
        DUE.is("it went: not LOST", x.count(7), 2);
        DUE.is("none left", x.reader(0, 10), 0);
        DUE.is("not MISSED", x.count(12), 0);
    }

    private static void session0AtOnce() {
        DUE.part("Terms 3: FADING of SESSION 0 is at once, in each of these, too");
        TagReaders x = Edge.with(1, 1, 2, 3);
        Edge.turnOn(x, 0);
        x.begin(0, 0, 1, 0, Edge.TREE);
        x.move(0, 2);
        DUE.is("moved, LOST", x.tagOf(0, 0), 0);
        DUE.is("FADED", x.count(9), 1);
        x.gone(1);
        DUE.is("who goes does not FADE", x.count(9), 1);
        x.power(0, false);
        DUE.is("off, BROKEN", x.tagOf(2, 0), 0);
        DUE.is("FADED", x.count(9), 2);
        x.tag(1, Edge.memory(2, 0), 1);
        DUE.is("who comes is A", x.tagOf(1, 0), 0);
        DUE.is("and does not FADE", x.count(9), 2);
        x.power(0, true);
        DUE.is("POWER does not bring it back", x.tagOf(2, 0), 0);
        DUE.is("no TICK went", x.look(0), 0);
    }
}
