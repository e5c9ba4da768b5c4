/** The edges that "What it is" and Terms 1 name, with promises 1 to 8, 14, 15, 33, 35, 36, 41: a sentence a method. */
public final class EdgesOfTagsTest {
    private static final Due DUE = new Due();
    private static final Edge EDGE = new Edge(DUE);
    private static final int NONE = Edge.NONE;
    private static final int MOST = Edge.MOST;
    private static final int LEAST = Edge.LEAST;

    public static void main(String[] args) {
        usedForAtMost512Calls();
        tickIsZeroAtFirst();
        readersAreZeroToThree();
        readersAreNotOnAtFirst();
        qfBounds();
        stepBounds();
        channelBounds();
        tuneOfAnotherWhat();
        tagsAreZeroTo23();
        noTagAtFirst();
        allTagsAreThere();
        memoryIsOf32Bits();
        idIsBitsZeroTo15();
        noTwoHaveOneId();
        reachIsASet();
        powerByOneOfThese();
        flagsAreZeroAsItComes();
        fadingOfSession0();
        fadingOfSession1();
        fadingOfSession1Again();
        fadingOfSession1ByRead();
        fadingByLong();
        fadingByLongStartsAnew();
        fadingByLongWithPower();
        shortBounds();
        longBounds();
        setOfAnotherWhat();
        shortAndLongTold();
        drawWraps();
        drawWithoutSign();
        drawOfOne();
        statePromise();
        tagPromise();
        gonePromise();
        movePromise();
        powerPromise();
        whoWentDoesNotFade();
        tagOfPromise();
        bitsPromise();
        fadesInPromise();
        openPromise();
        apartPromise();
        lookPromise();
        DUE.end();
    }

    private static void usedForAtMost512Calls() {
        DUE.part("What it is: an object is used for at most 512 calls");
        TagReaders x = new TagReaders();
        for (int call = 1; call <= 511; call++) {
            DUE.is("call " + call, x.state(call), call - 1);
        }
        DUE.is("call 512", x.look(1), 511);
        TagReaders y = Edge.full(1);
        // One call turned READER 0 ON, 24 let TAGS come.
        for (int call = 26; call <= 511; call++) {
            y.tick(1);
        }
        DUE.is("call 512", y.look(0), 486);
    }

    private static void tickIsZeroAtFirst() {
        DUE.part("Terms 1: TICK 0 .. 9999 (0 at first)");
        TagReaders x = new TagReaders();
        DUE.is("look(0)", x.look(0), 0);
        for (int i = 1; i <= 249; i++) {
            x.tick(40);
        }
        DUE.is("look(0)", x.look(0), 9960);
        EDGE.refused(x, "tick(40): it would be 10000", () -> x.tick(40), NONE);
        DUE.is("tick(38)", x.tick(38), 9998);
        EDGE.refused(x, "tick(2): it would be 10000", () -> x.tick(2), NONE);
        DUE.is("tick(1)", x.tick(1), 9999);
        EDGE.refused(x, "tick(1): it would be 10000", () -> x.tick(1), NONE);
        DUE.is("look(0)", x.look(0), 9999);
    }

    private static void readersAreZeroToThree() {
        DUE.part("Terms 1: READERS 0 .. 3");
        TagReaders x = Edge.full(9);
        x.begin(0, 0, 0, 0, Edge.TREE);
        Edge.ticks(x, 71);
        DUE.is("READER 0 READ all", x.reader(0, 12), 24);
        for (int r : Edge.NO_READERS) {
            EDGE.refused(x, "tune(" + r + ", 0, 1)", () -> x.tune(r, 0, 1));
            EDGE.refused(x, "power(" + r + ", true)", () -> x.power(r, true));
            EDGE.refused(x, "power(" + r + ", false)", () -> x.power(r, false));
            EDGE.refused(x, "select(" + r + ", 0, 0, 0, 0, 0)", () -> x.select(r, 0, 0, 0, 0, 0), NONE);
            EDGE.refused(x, "put(" + r + ", 0, 16, 1, 1)", () -> x.put(r, 0, 16, 1, 1));
            EDGE.refused(x, "begin(" + r + ", 0, 0, 0, 0)", () -> x.begin(r, 0, 0, 0, 0), NONE);
            EDGE.refused(x, "stop(" + r + ")", () -> x.stop(r));
            for (int what = 0; what <= 20; what++) {
                DUE.is("reader(" + r + ", " + what + ")", x.reader(r, what), NONE);
            }
            DUE.is("prefix(" + r + ", 0, 0)", x.prefix(r, 0, 0), NONE);
            DUE.is("learnt(" + r + ", 0, 0)", x.learnt(r, 0, 0), NONE);
            DUE.is("read(" + r + ", 0)", x.read(r, 0), NONE);
            DUE.is("wouldHave(" + r + ", 0, 0, 0)", x.wouldHave(r, 0, 0, 0), NONE);
            DUE.is("queries(" + r + ", 0, 0, 0)", x.queries(r, 0, 0, 0), NONE);
            DUE.is("lasts(" + r + ")", x.lasts(r), NONE);
            DUE.is("both(" + r + ", 0)", x.both(r, 0), NONE);
            DUE.is("both(0, " + r + ")", x.both(0, r), NONE);
        }
        DUE.is("READER 3 SELECTS", x.select(3, 1, 5, 0, 0, 0), 24);
        DUE.is("READER 3 begins", x.begin(3, 1, 1, 0, Edge.SLOTS), 24);
        DUE.is("READER 3 stops", x.stop(3), true);
        DUE.is("READER 0 READ last", x.put(0, 23, 16, 1, 1), true);
        DUE.is("both(0, 3)", x.both(0, 3), 0);
    }

    private static void readersAreNotOnAtFirst() {
        DUE.part("Terms 1: READERS, each ON or not (not at first)");
        TagReaders x = new TagReaders();
        Edge.come(x, 15, 1);
        for (int r = 0; r < 4; r++) {
            int reader = r;
            DUE.is("reader(" + r + ", 0)", x.reader(r, 0), 0);
            EDGE.refused(x, "power(" + r + ", false)", () -> x.power(reader, false));
            EDGE.refused(x, "select by " + r, () -> x.select(reader, 0, 0, 0, 0, 0), NONE);
            EDGE.refused(x, "begin by " + r, () -> x.begin(reader, 0, 0, 0, 0), NONE);
        }
        DUE.is("look(8)", x.look(8), 0);
    }

    private static void bounds(String name, int what, int shown, int first, int least, int most) {
        DUE.part("Terms 1: " + name);
        TagReaders x = new TagReaders();
        for (int r = 0; r < 4; r++) {
            int reader = r;
            DUE.is("at first", x.reader(r, shown), first);
            EDGE.refused(x, "one too small", () -> x.tune(reader, what, least - 1));
            EDGE.refused(x, "one too large", () -> x.tune(reader, what, most + 1));
            EDGE.refused(x, "the least int", () -> x.tune(reader, what, LEAST));
            EDGE.refused(x, "the greatest int", () -> x.tune(reader, what, MOST));
            DUE.is("the least", x.tune(r, what, least), true);
            DUE.is("is told", x.reader(r, shown), least);
            DUE.is("the greatest", x.tune(r, what, most), true);
            DUE.is("is told", x.reader(r, shown), most);
            DUE.is("the same again", x.tune(r, what, most), true);
            EDGE.refused(x, "one too large", () -> x.tune(reader, what, most + 1));
        }
    }

    private static void qfBounds() {
        bounds("QF (0 .. 64; 32 at first)", 0, 2, 32, 0, 64);
    }

    private static void stepBounds() {
        bounds("STEP (1 .. 8; 2)", 1, 3, 2, 1, 8);
    }

    private static void channelBounds() {
        bounds("CHANNEL (0 .. 3; 0)", 2, 17, 0, 0, 3);
    }

    private static void tuneOfAnotherWhat() {
        DUE.part("promise 4: false if another what");
        TagReaders x = new TagReaders();
        for (int what : new int[] {-1, 3, LEAST, MOST}) {
            EDGE.refused(x, "tune(0, " + what + ", 1)", () -> x.tune(0, what, 1));
        }
    }

    private static void tagsAreZeroTo23() {
        DUE.part("Terms 1: TAGS 0 .. 23");
        TagReaders x = Edge.on(1);
        for (int t : Edge.NO_TAGS) {
            EDGE.refused(x, "tag(" + t + ", ..)", () -> x.tag(t, Edge.memory(7, 0), 1));
        }
        DUE.is("tag(0, ..)", x.tag(0, Edge.memory(1, 0), 1), true);
        DUE.is("tag(23, ..)", x.tag(23, Edge.memory(2, 0), 1), true);
        for (int t : Edge.NO_TAGS) {
            EDGE.refused(x, "gone(" + t + ")", () -> x.gone(t));
            EDGE.refused(x, "move(" + t + ", 1)", () -> x.move(t, 1));
            EDGE.refused(x, "put(0, " + t + ", 16, 1, 1)", () -> x.put(0, t, 16, 1, 1));
            noSuchTag(x, t);
        }
        DUE.is("look(4)", x.look(4), 2);
        DUE.is("tagOf(23, 13)", x.tagOf(23, 13), 2);
        DUE.is("open(0, 0): bits 0 and 23", x.open(0, 0), 8388609);
        DUE.is("move(23, 0)", x.move(23, 0), true);
        DUE.is("gone(23)", x.gone(23), true);
        DUE.is("gone(0)", x.gone(0), true);
    }

    private static void noSuchTag(TagReaders x, int t) {
        for (int what = 0; what <= 13; what++) {
            DUE.is("tagOf(" + t + ", " + what + ")", x.tagOf(t, what), NONE - 1);
        }
        DUE.is("bits(" + t + ", 0, 1)", x.bits(t, 0, 1), NONE);
        DUE.is("jammed(" + t + ")", x.jammed(t), NONE);
        for (int flag = 0; flag <= 4; flag++) {
            DUE.is("fadesIn(" + t + ", " + flag + ")", x.fadesIn(t, flag), NONE);
        }
        DUE.is("apart(" + t + ", 0)", x.apart(t, 0), NONE);
        DUE.is("apart(0, " + t + ")", x.apart(0, t), NONE);
    }

    private static void noTagAtFirst() {
        DUE.part("Terms 1: TAGS, there or not (at first none is)");
        TagReaders x = Edge.on(15);
        for (int t = 0; t < 24; t++) {
            int tag = t;
            noSuchTag(x, t);
            EDGE.refused(x, "gone(" + t + ")", () -> x.gone(tag));
            EDGE.refused(x, "move(" + t + ", 1)", () -> x.move(tag, 1));
            EDGE.refused(x, "put(0, " + t + ", 16, 1, 1)", () -> x.put(0, tag, 16, 1, 1));
        }
        for (int what = 4; what <= 7; what++) {
            DUE.is("look(" + what + ")", x.look(what), 0);
        }
        DUE.is("select of none", x.select(0, 0, 0, 0, 0, 0), 0);
        DUE.is("open of none", x.open(0, 0), 0);
        DUE.is("wouldHave", x.wouldHave(0, 0, 0, 0), 0);
    }

    private static void allTagsAreThere() {
        DUE.part("Terms 1: TAGS 0 .. 23, all there");
        TagReaders x = Edge.full(1);
        DUE.is("look(4)", x.look(4), 24);
        DUE.is("look(5)", x.look(5), 24);
        DUE.is("open: bits 0 to 23", x.open(0, 0), 16777215);
        for (int t = 0; t < 24; t++) {
            int tag = t;
            EDGE.refused(x, "tag(" + t + ", ..): it is there", () -> x.tag(tag, Edge.memory(99, 0), 1));
        }
        EDGE.refused(x, "tag(24, ..)", () -> x.tag(24, Edge.memory(99, 0), 1));
        DUE.is("gone(11)", x.gone(11), true);
        DUE.is("its place is free", x.tag(11, Edge.memory(99, 0), 1), true);
        DUE.is("look(4)", x.look(4), 24);
    }

    private static void memoryIsOf32Bits() {
        DUE.part("Terms 1: MEMORY: 32 bits, numbered from 0 on, bit 0 the highest of an int");
        TagReaders x = new TagReaders();
        x.tag(0, LEAST, 0);
        x.tag(1, 1, 0);
        x.tag(2, -1, 0);
        x.tag(3, MOST, 0);
        for (int p = 0; p < 32; p++) {
            DUE.is("bit " + p + " of 80000000", x.bits(0, p, 1), p == 0 ? 1 : 0);
            DUE.is("bit " + p + " of 00000001", x.bits(1, p, 1), p == 31 ? 1 : 0);
            DUE.is("bit " + p + " of FFFFFFFF", x.bits(2, p, 1), 1);
            DUE.is("bit " + p + " of 7FFFFFFF", x.bits(3, p, 1), p == 0 ? 0 : 1);
        }
    }

    private static void idIsBitsZeroTo15() {
        DUE.part("Terms 1: bits 0 to 15 are its ID");
        TagReaders x = new TagReaders();
        x.tag(0, LEAST, 0);
        x.tag(1, 0x0000FFFF, 0);
        x.tag(2, -1, 0);
        x.tag(3, 0x00010000, 0);
        x.tag(4, 0x7FFF0000, 0);
        int[] ids = {32768, 0, 65535, 1, 32767};
        for (int i = 0; i < ids.length; i++) {
            DUE.is("tagOf(" + i + ", 13)", x.tagOf(i, 13), ids[i]);
        }
    }

    private static void noTwoHaveOneId() {
        DUE.part("Terms 1: no two TAGS have one ID");
        TagReaders x = new TagReaders();
        DUE.is("TAG 5 with ID 0", x.tag(5, 0x00000000, 0), true);
        EDGE.refused(x, "unlike in bit 16 alone", () -> x.tag(6, 0x00008000, 0));
        EDGE.refused(x, "unlike in all bits behind the ID, a lower number", () -> x.tag(0, 0x0000FFFF, 0));
        DUE.is("unlike in bit 15 alone", x.tag(6, 0x00010000, 0), true);
        DUE.is("unlike in bit 0 alone", x.tag(0, 0x80000000, 0), true);
        EDGE.refused(x, "ID of TAG 0", () -> x.tag(23, 0x80000001, 0));
        DUE.is("ID 65535", x.tag(23, -1, 0), true);
        EDGE.refused(x, "ID 65535 again", () -> x.tag(22, 0xFFFF0000, 15));
        DUE.is("it went", x.gone(23), true);
        DUE.is("so its ID is free", x.tag(22, 0xFFFF0000, 15), true);
        EDGE.refused(x, "its own number, but the ID is another one's", () -> x.tag(23, -1, 0));
    }

    private static void reachIsASet() {
        DUE.part("Terms 1: REACH: the READERS (a set) that reach it");
        TagReaders x = Edge.on(1);
        for (int reach : new int[] {-1, 16, LEAST, MOST, 255}) {
            EDGE.refused(x, "tag with REACH " + reach, () -> x.tag(0, 0, reach));
        }
        DUE.is("none", x.tag(0, Edge.memory(0, 0), 0), true);
        DUE.is("all", x.tag(1, Edge.memory(1, 0), 15), true);
        DUE.is("tagOf(0, 8)", x.tagOf(0, 8), 0);
        DUE.is("tagOf(1, 8)", x.tagOf(1, 8), 15);
        for (int reach : new int[] {-1, 16, LEAST, MOST, 255}) {
            EDGE.refused(x, "move to REACH " + reach, () -> x.move(1, reach));
        }
        DUE.is("to none", x.move(1, 0), true);
        DUE.is("to all", x.move(0, 15), true);
        DUE.is("tagOf(0, 8)", x.tagOf(0, 8), 15);
        DUE.is("tagOf(1, 8)", x.tagOf(1, 8), 0);
    }

    private static void powerByOneOfThese() {
        DUE.part("Terms 1: it has POWER, if one of these is ON");
        for (int on = 0; on < 16; on++) {
            TagReaders x = Edge.on(on);
            for (int reach = 0; reach < 16; reach++) {
                x.tag(reach, Edge.memory(reach, 0), reach);
            }
            int powered = 0;
            for (int reach = 0; reach < 16; reach++) {
                boolean has = (reach & on) != 0;
                powered += has ? 1 : 0;
                DUE.is("ON " + on + ", REACH " + reach, x.tagOf(reach, 5), has ? 1 : 0);
                DUE.is("without for", x.tagOf(reach, 12), has ? NONE : 0);
            }
            DUE.is("look(5)", x.look(5), powered);
        }
    }

    private static void flagsAreZeroAsItComes() {
        DUE.part("Terms 1: FLAGS: all 0 as it comes");
        TagReaders x = Edge.with(1, 7);
        for (int flag = 0; flag <= 4; flag++) {
            DUE.is("FLAG " + flag, x.tagOf(0, flag), 0);
            Edge.turnOn(x, flag);
            DUE.is("FLAG " + flag, x.tagOf(0, flag), 1);
        }
        x.gone(0);
        x.tag(0, Edge.memory(7, 0), 1);
        for (int flag = 0; flag <= 4; flag++) {
            DUE.is("comes again, FLAG " + flag, x.tagOf(0, flag), 0);
        }
        DUE.is("none of them FADED", x.count(9), 0);
    }

    private static void fadingOfSession0() {
        DUE.part("Terms 1: FLAG of SESSION 0: B turns A as soon as it has no POWER");
        TagReaders x = Edge.with(3, 0, 1, 2);
        Edge.turnOn(x, 0);
        x.move(0, 1);
        x.power(1, false);
        DUE.is("one of two is ON yet", x.tagOf(1, 0), 1);
        DUE.is("moved to the one that is ON", x.tagOf(0, 0), 1);
        x.tick(40);
        DUE.is("with POWER it stays", x.tagOf(0, 0) + x.tagOf(1, 0) + x.tagOf(2, 0), 3);
        x.move(0, 2);
        DUE.is("moved to one that is not ON: at once", x.tagOf(0, 0), 0);
        DUE.is("FADED", x.count(9), 1);
        x.move(0, 1);
        DUE.is("it stays A", x.tagOf(0, 0), 0);
        x.power(0, false);
        DUE.is("the last one off: at once", x.tagOf(1, 0) + x.tagOf(2, 0), 0);
        DUE.is("FADED, those that were B alone", x.count(9), 3);
        DUE.is("no TICK went", x.look(0), 40);
    }

    private static void fadingOfSession1() {
        DUE.part("Terms 1: SESSION 1: A as it is SHORT TICKS since it became B, with POWER or without");
        for (int span : new int[] {1, 2, 20, 199, 200}) {
            for (int powered = 0; powered <= 1; powered++) {
                TagReaders x = Edge.with(1, 0);
                x.set(0, span);
                x.tick(3);
                Edge.turnOn(x, 1);
                DUE.is("B for", x.tagOf(0, 11), 0);
                if (powered == 0) {
                    x.power(0, false);
                }
                Edge.ticks(x, span - 1);
                DUE.is("one TICK before " + span, x.tagOf(0, 1), 1);
                DUE.is("B for", x.tagOf(0, 11), span - 1);
                DUE.is("none FADED", x.count(9), 0);
                x.tick(1);
                DUE.is("at " + span, x.tagOf(0, 1), 0);
                DUE.is("A: NONE", x.tagOf(0, 11), NONE);
                DUE.is("FADED", x.count(9), 1);
                x.tick(1);
                DUE.is("once alone", x.count(9), 1);
            }
        }
    }

    private static void fadingOfSession1Again() {
        DUE.part("Terms 1: SESSION 1: (again: from then on)");
        TagReaders x = Edge.with(1, 0);
        x.set(0, 4);
        Edge.turnOn(x, 1);
        x.tick(4);
        DUE.is("FADED", x.tagOf(0, 1), 0);
        Edge.turnOn(x, 1);
        x.tick(3);
        DUE.is("B again, yet", x.tagOf(0, 1), 1);
        Edge.turnOn(x, 1);
        x.tick(3);
        DUE.is("from then on", x.tagOf(0, 1), 1);
        x.tick(1);
        DUE.is("FADED again", x.tagOf(0, 1), 0);
        Edge.turnOn(x, 1);
        x.tick(3);
        Edge.turnOn(x, 0);
        Edge.turnOn(x, 2);
        Edge.turnOn(x, Edge.SELECTED);
        x.tick(1);
        DUE.is("other FLAGS that become B change nothing of it", x.tagOf(0, 1), 0);
    }

    private static void fadingOfSession1ByRead() {
        DUE.part("Terms 1: SESSION 1, as it became B by being READ");
        TagReaders x = Edge.with(1, 0);
        x.set(0, 1);
        x.begin(0, 1, 0, 0, Edge.TREE);
        x.tick(1);
        DUE.is("B in the TICK in which it was READ", x.tagOf(0, 1), 1);
        DUE.is("for", x.tagOf(0, 11), 0);
        x.tick(1);
        DUE.is("A one TICK later", x.tagOf(0, 1), 0);
    }

    private static void fadingByLong() {
        DUE.part("Terms 1: SESSIONS 2, 3, SELECTED: A (0) as it has had no POWER for LONG TICKS");
        for (int span : new int[] {1, 2, 40, 399, 400}) {
            for (int flag = 2; flag <= 4; flag++) {
                TagReaders x = Edge.with(1, 0);
                x.set(1, span);
                Edge.turnOn(x, flag);
                x.tick(5);
                x.power(0, false);
                Edge.ticks(x, span - 1);
                DUE.is("FLAG " + flag + " one TICK before " + span, x.tagOf(0, flag), 1);
                DUE.is("without POWER for", x.tagOf(0, 12), span - 1);
                x.tick(1);
                DUE.is("FLAG " + flag + " at " + span, x.tagOf(0, flag), 0);
                DUE.is("FADED", x.count(9), 1);
                x.tick(1);
                DUE.is("once alone", x.count(9), 1);
                DUE.is("without POWER for", x.tagOf(0, 12), span + 1);
            }
        }
    }

    private static void fadingByLongStartsAnew() {
        DUE.part("Terms 1: no POWER for LONG TICKS: POWER between starts it anew");
        TagReaders x = Edge.with(1, 0);
        x.set(1, 3);
        Edge.turnOn(x, 2);
        x.power(0, false);
        x.tick(2);
        x.power(0, true);
        x.power(0, false);
        x.tick(2);
        DUE.is("2 and 2 are not 3", x.tagOf(0, 2), 1);
        DUE.is("without POWER for", x.tagOf(0, 12), 2);
        x.tick(1);
        DUE.is("3", x.tagOf(0, 2), 0);
        TagReaders y = Edge.with(1, 0);
        y.set(1, 3);
        Edge.turnOn(y, 2);
        y.move(0, 0);
        y.tick(2);
        y.move(0, 14);
        DUE.is("moved where none is ON: not anew", y.tagOf(0, 12), 2);
        y.tick(1);
        DUE.is("3", y.tagOf(0, 2), 0);
    }

    private static void fadingByLongWithPower() {
        DUE.part("Terms 1: SESSIONS 2, 3, SELECTED: with POWER they stay");
        TagReaders x = Edge.with(1, 0);
        x.set(1, 1);
        for (int flag = 0; flag <= 4; flag++) {
            Edge.turnOn(x, flag);
        }
        x.set(0, 200);
        Edge.ticks(x, 199);
        DUE.is("all", x.tagOf(0, 0) + x.tagOf(0, 1) + x.tagOf(0, 2) + x.tagOf(0, 3) + x.tagOf(0, 4), 5);
        Edge.ticks(x, 300);
        DUE.is("all but SESSION 1", x.tagOf(0, 0) + x.tagOf(0, 2) + x.tagOf(0, 3) + x.tagOf(0, 4), 4);
        DUE.is("SESSION 1", x.tagOf(0, 1), 0);
    }

    private static void spanBounds(int what, int shown, int first, int most) {
        TagReaders x = new TagReaders();
        DUE.is("at first", x.look(shown), first);
        for (int v : new int[] {0, -1, most + 1, LEAST, MOST}) {
            EDGE.refused(x, "set(" + what + ", " + v + ")", () -> x.set(what, v));
        }
        DUE.is("1", x.set(what, 1), true);
        DUE.is("look(" + shown + ")", x.look(shown), 1);
        DUE.is("the greatest", x.set(what, most), true);
        DUE.is("look(" + shown + ")", x.look(shown), most);
        EDGE.refused(x, "set(" + what + ", " + (most + 1) + ")", () -> x.set(what, most + 1));
    }

    private static void shortBounds() {
        DUE.part("Terms 1: SHORT 1 .. 200 (20 at first)");
        spanBounds(0, 2, 20, 200);
    }

    private static void longBounds() {
        DUE.part("Terms 1: LONG 1 .. 400 (40)");
        spanBounds(1, 3, 40, 400);
    }

    private static void setOfAnotherWhat() {
        DUE.part("promise 2: false if another what");
        TagReaders x = new TagReaders();
        for (int what : new int[] {-1, 2, LEAST, MOST}) {
            EDGE.refused(x, "set(" + what + ", 5)", () -> x.set(what, 5));
        }
    }

    private static void shortAndLongTold() {
        DUE.part("Terms 1: SHORT, LONG, told: while FLAGS are B");
        TagReaders x = Edge.with(1, 0);
        Edge.turnOn(x, 1);
        Edge.turnOn(x, 3);
        x.power(0, false);
        x.tick(10);
        x.set(0, 11);
        x.set(1, 12);
        x.tick(1);
        DUE.is("SHORT 11", x.tagOf(0, 1), 0);
        DUE.is("LONG 12, yet", x.tagOf(0, 3), 1);
        x.tick(1);
        DUE.is("LONG 12", x.tagOf(0, 3), 0);
        TagReaders y = Edge.with(1, 0);
        Edge.turnOn(y, 1);
        y.tick(19);
        y.set(0, 30);
        y.tick(10);
        DUE.is("SHORT 30, at 29", y.tagOf(0, 1), 1);
        y.set(0, 5);
        DUE.is("no TICK, none FADES by time", y.tagOf(0, 1), 1);
        y.tick(1);
        DUE.is("SHORT 5 is long since", y.tagOf(0, 1), 0);
    }

    /** The row of STATES from 0 on that books print for these two numbers: 3C6EF35F, 47502932, D1CCF6E9, AAF95334 .. */
    private static void drawWraps() {
        DUE.part("Terms 1: DRAW: STATE becomes 1664525 times itself + 1013904223 (ints, which wrap)");
        TagReaders x = Edge.with(1, 1, 2, 3, 4);
        int[] states = {0x3C6EF35F, 0x47502932, 0xD1CCF6E9, 0xAAF95334};
        x.tune(0, 0, 16);
        x.begin(0, 0, 0, 0, Edge.SLOTS);
        DUE.is("STATE behind 4 DRAWS", x.look(1), states[3]);
        TagReaders y = Edge.with(1, 1);
        for (int i = 0; i < 4; i++) {
            y.begin(0, 0, 0, 0, Edge.SLOTS);
            DUE.is("STATE behind DRAW " + (i + 1), y.look(1), states[i]);
            y.stop(0);
        }
        // An odd number times 80000000 is 80000000 again, which wraps.
        y.state(LEAST);
        y.begin(0, 0, 0, 0, Edge.SLOTS);
        DUE.is("from 80000000", y.look(1), 0xBC6EF35F);
        y.stop(0);
        // 1013904223 - 1664525
        y.state(-1);
        y.begin(0, 0, 0, 0, Edge.SLOTS);
        DUE.is("from FFFFFFFF", y.look(1), 1012239698);
    }

    private static void drawWithoutSign() {
        DUE.part("Terms 1: DRAW of m: its highest 24 bits (without sign) modulo m");
        // The highest 24 bits of these STATES: 3C6EF3, 475029, D1CCF6, AAF953; the last two have bit 0.
        int[] qfs = {8, 16, 24, 32, 64};
        int[][] due = {{1, 1, 0, 1}, {3, 1, 2, 3}, {3, 1, 6, 3}, {3, 9, 6, 3}, {243, 41, 246, 83}};
        for (int i = 0; i < qfs.length; i++) {
            TagReaders x = Edge.with(1, 1, 2, 3, 4);
            x.tune(0, 0, qfs[i]);
            x.begin(0, 0, 0, 0, Edge.SLOTS);
            EDGE.slots(x, due[i]);
        }
    }

    private static void drawOfOne() {
        DUE.part("Terms 1: DRAW of 1: 0, STATE goes on all the same");
        TagReaders x = Edge.with(1, 1, 2);
        x.tune(0, 0, 3);
        x.begin(0, 0, 0, 0, Edge.SLOTS);
        EDGE.slots(x, 0, 0);
        DUE.is("STATE", x.look(1), 0x47502932);
    }

    private static void statePromise() {
        DUE.part("promise 3: STATE is told: what it was");
        TagReaders x = new TagReaders();
        DUE.is("state(LEAST)", x.state(LEAST), 0);
        DUE.is("look(1)", x.look(1), LEAST);
        DUE.is("state(MOST)", x.state(MOST), LEAST);
        DUE.is("look(1)", x.look(1), MOST);
        DUE.is("state(-1)", x.state(-1), MOST);
        DUE.is("state(0)", x.state(0), -1);
        DUE.is("state(0)", x.state(0), 0);
    }

    private static void tagPromise() {
        DUE.part("promise 5: true; false if it is there, one can't be, or its ID is another one's");
        TagReaders x = Edge.on(1);
        DUE.is("comes", x.tag(3, Edge.memory(5, 6), 1), true);
        EDGE.refused(x, "the same again", () -> x.tag(3, Edge.memory(5, 6), 1));
        EDGE.refused(x, "there, with another ID", () -> x.tag(3, Edge.memory(6, 6), 1));
        EDGE.refused(x, "TAG 24", () -> x.tag(24, Edge.memory(6, 6), 1));
        EDGE.refused(x, "REACH 16", () -> x.tag(4, Edge.memory(6, 6), 16));
        EDGE.refused(x, "ID of TAG 3", () -> x.tag(4, Edge.memory(5, 7), 1));
        DUE.is("any MEMORY else", x.tag(4, LEAST, 1), true);
    }

    private static void gonePromise() {
        DUE.part("promise 6: a TAG goes: true; false if there is none such");
        TagReaders x = Edge.full(1);
        for (int t = 23; t >= 0; t--) {
            int tag = t;
            DUE.is("gone(" + t + ")", x.gone(t), true);
            DUE.is("look(4)", x.look(4), t);
            EDGE.refused(x, "gone(" + t + ") again", () -> x.gone(tag));
        }
        DUE.is("a TAKING OF STOCK of none", x.begin(0, 0, 0, 0, Edge.TREE), 0);
    }

    private static void movePromise() {
        DUE.part("promise 7: a TAG is moved: true; false if one can't be");
        TagReaders x = Edge.with(1, 5);
        DUE.is("where it is", x.move(0, 1), true);
        DUE.is("elsewhere", x.move(0, 8), true);
        DUE.is("nowhere", x.move(0, 0), true);
        DUE.is("nowhere again", x.move(0, 0), true);
        EDGE.refused(x, "TAG 1 is not there", () -> x.move(1, 1));
        EDGE.refused(x, "REACH 16", () -> x.move(0, 16));
        EDGE.refused(x, "REACH -1", () -> x.move(0, -1));
        x.gone(0);
        EDGE.refused(x, "it went", () -> x.move(0, 1));
    }

    private static void powerPromise() {
        DUE.part("promise 8: true; false if it is so already, or there is none such");
        TagReaders x = Edge.with(0, 5);
        for (int r = 0; r < 4; r++) {
            int reader = r;
            EDGE.refused(x, "off already", () -> x.power(reader, false));
            DUE.is("on", x.power(r, true), true);
            EDGE.refused(x, "on already", () -> x.power(reader, true));
            DUE.is("look(8)", x.look(8), (2 << r) - 1);
        }
        x.begin(3, 0, 0, 0, Edge.SLOTS);
        EDGE.refused(x, "on already: nothing is BROKEN", () -> x.power(3, true));
        DUE.is("off", x.power(3, false), true);
        EDGE.refused(x, "off already", () -> x.power(3, false));
        DUE.is("look(8)", x.look(8), 7);
    }

    private static void whoWentDoesNotFade() {
        DUE.part("promise 6: a TAG goes: it has no FLAGS that FADE");
        TagReaders x = Edge.with(1, 5);
        x.set(0, 3);
        x.set(1, 3);
        for (int flag = 0; flag <= 4; flag++) {
            Edge.turnOn(x, flag);
        }
        x.gone(0);
        x.power(0, false);
        x.tick(10);
        DUE.is("none FADED", x.count(9), 0);
        DUE.is("none is there", x.look(4) + x.look(5) + x.look(6) + x.look(7), 0);
    }

    private static void tagOfPromise() {
        DUE.part("promise 14: NONE - 1 if there is none such, or another what");
        TagReaders x = Edge.with(1, 5);
        for (int what : new int[] {-1, 14, LEAST, MOST}) {
            DUE.is("tagOf(0, " + what + ")", x.tagOf(0, what), -2);
            DUE.is("tagOf(1, " + what + ")", x.tagOf(1, what), -2);
        }
        DUE.is("tagOf(1, 0)", x.tagOf(1, 0), -2);
        int[] first = {0, 0, 0, 0, 0, 1, NONE, NONE, 1, 0, NONE, NONE, NONE, 5};
        for (int what = 0; what < first.length; what++) {
            DUE.is("as it came, " + what, x.tagOf(0, what), first[what]);
        }
        x.gone(0);
        for (int what = 0; what <= 13; what++) {
            DUE.is("it went, " + what, x.tagOf(0, what), -2);
        }
    }

    private static void bitsPromise() {
        DUE.part("promise 15: n bits of a TAG from p on (n 1 .. 31, p and n 32 at most)");
        TagReaders x = new TagReaders();
        x.tag(0, -1, 0);
        for (int p = 0; p < 32; p++) {
            int most = Math.min(31, 32 - p);
            DUE.is("one from " + p, x.bits(0, p, 1), 1);
            DUE.is("as many as can be from " + p, x.bits(0, p, most), (int) ((1L << most) - 1));
            DUE.is("one too many from " + p, x.bits(0, p, most + 1), NONE);
            DUE.is("none from " + p, x.bits(0, p, 0), NONE);
            DUE.is("-1 from " + p, x.bits(0, p, -1), NONE);
        }
        int[][] wrong = {{32, 1}, {-1, 1}, {-1, 2}, {32, 0}, {0, 32}, {0, 33}, {LEAST, 1}, {MOST, 1}, {1, MOST},
            {MOST, MOST}, {LEAST, LEAST}, {0, LEAST}};
        for (int[] a : wrong) {
            DUE.is("bits(0, " + a[0] + ", " + a[1] + ")", x.bits(0, a[0], a[1]), NONE);
        }
        DUE.is("no TAG", x.bits(1, 0, 1), NONE);
        x.tag(1, 5, 0);
        DUE.is("31 bits that are 5", x.bits(1, 1, 31), 5);
        DUE.is("32 bits can't be", x.bits(1, 0, 32), NONE);
        DUE.is("no bits can't be", x.bits(1, 0, 0), NONE);
    }

    private static void fadesInPromise() {
        DUE.part("promise 33: (0: it is A, 0); NONE if it will not, or there is none such");
        TagReaders x = Edge.with(1, 5);
        for (int flag = 0; flag <= 4; flag++) {
            DUE.is("A, FLAG " + flag, x.fadesIn(0, flag), 0);
        }
        for (int flag = 0; flag <= 4; flag++) {
            Edge.turnOn(x, flag);
        }
        int[] powered = {NONE, 20, NONE, NONE, NONE};
        for (int flag = 0; flag <= 4; flag++) {
            DUE.is("with POWER, FLAG " + flag, x.fadesIn(0, flag), powered[flag]);
        }
        for (int flag : new int[] {-1, 5, LEAST, MOST}) {
            DUE.is("fadesIn(0, " + flag + ")", x.fadesIn(0, flag), NONE);
        }
        DUE.is("no TAG", x.fadesIn(1, 1), NONE);
        x.tick(19);
        DUE.is("one TICK before", x.fadesIn(0, 1), 1);
        x.tick(1);
        DUE.is("FADED", x.fadesIn(0, 1), 0);
        x.power(0, false);
        x.set(1, 400);
        int[] dark = {0, 0, 400, 400, 400};
        for (int flag = 0; flag <= 4; flag++) {
            DUE.is("without, FLAG " + flag, x.fadesIn(0, flag), dark[flag]);
        }
        Edge.ticks(x, 399);
        DUE.is("one TICK before", x.fadesIn(0, 4), 1);
        x.tick(1);
        DUE.is("FADED", x.fadesIn(0, 4), 0);
        fadesInOverdue();
    }

    private static void fadesInOverdue() {
        DUE.part("promise 33: SHORT, LONG are told less than the time that is gone: the next TICK");
        TagReaders x = Edge.with(1, 5);
        Edge.turnOn(x, 1);
        Edge.turnOn(x, 3);
        x.power(0, false);
        x.tick(10);
        x.set(0, 10);
        x.set(1, 10);
        DUE.is("SHORT is just gone", x.fadesIn(0, 1), 1);
        DUE.is("LONG is just gone", x.fadesIn(0, 3), 1);
        x.set(0, 1);
        x.set(1, 1);
        DUE.is("SHORT is long gone", x.fadesIn(0, 1), 1);
        DUE.is("LONG is long gone", x.fadesIn(0, 3), 1);
        x.tick(1);
        DUE.is("FADED", x.count(9), 2);
    }

    private static void openPromise() {
        DUE.part("promise 35: TAGS that are there, with POWER; NONE if one can't be");
        TagReaders x = Edge.full(1);
        int[][] wrong = {{-1, 0}, {4, 0}, {0, -1}, {0, 2}, {LEAST, 0}, {MOST, 1}, {0, LEAST}, {0, MOST}};
        for (int[] a : wrong) {
            DUE.is("open(" + a[0] + ", " + a[1] + ")", x.open(a[0], a[1]), NONE);
        }
        for (int session = 0; session < 4; session++) {
            DUE.is("all, A", x.open(session, 0), 16777215);
            DUE.is("none, B", x.open(session, 1), 0);
            Edge.turnOn(x, session);
            DUE.is("none, A", x.open(session, 0), 0);
            DUE.is("all, B", x.open(session, 1), 16777215);
        }
        x.gone(23);
        DUE.is("23 went", x.open(3, 1), 8388607);
        x.move(0, 2);
        DUE.is("0 without POWER", x.open(3, 1), 8388606);
        x.begin(0, 3, 1, 0, Edge.SLOTS);
        DUE.is("BUSY or not", x.open(3, 1), 8388606);
        x.power(0, false);
        DUE.is("all without POWER", x.open(3, 1), 0);
    }

    private static void apartPromise() {
        DUE.part("promise 36: the first bit of MEMORY in which they are unlike; NONE if there is none");
        TagReaders x = new TagReaders();
        x.tag(0, 0x00000000, 0);
        for (int i = 0; i < 16; i++) {
            x.tag(i + 1, LEAST >>> i, 0);
            DUE.is("apart by bit " + i, x.apart(0, i + 1), i);
            DUE.is("likewise", x.apart(i + 1, 0), i);
            DUE.is("itself", x.apart(i + 1, i + 1), NONE);
        }
        x.tag(23, 0x8000FFFF, 0);
        DUE.is("the ID of another", x.apart(23, 1), NONE);
        x.gone(1);
        DUE.is("it went", x.apart(0, 1), NONE);
        x.tag(23, 0x8000FFFF, 0);
        DUE.is("the first of many bits", x.apart(0, 23), 0);
        x.tag(22, 0xFFFF0001, 0);
        DUE.is("bit 1, behind it others", x.apart(23, 22), 1);
    }

    private static void lookPromise() {
        DUE.part("promise 41: NONE - 99999999 for another what");
        TagReaders x = new TagReaders();
        for (int what : new int[] {-1, 11, LEAST, MOST}) {
            DUE.is("look(" + what + ")", x.look(what), -100000000);
        }
        x.state(-100000000);
        DUE.is("STATE may be anything", x.look(1), -100000000);
        int[] all = {0, -100000000, 20, 40, 0, 0, 0, 0, 0, 0, 0};
        for (int what = 0; what < all.length; what++) {
            DUE.is("look(" + what + ")", x.look(what), all[what]);
        }
        TagReaders y = Edge.full(15);
        Edge.turnOn(y, Edge.SELECTED);
        for (int r = 0; r < 4; r++) {
            y.begin(r, r, 0, 0, Edge.SLOTS);
        }
        int[] most = {24, 24, 24, 24, 15, 15, 5};
        for (int i = 0; i < most.length; i++) {
            DUE.is("look(" + (i + 4) + ")", y.look(i + 4), most[i]);
        }
    }
}
