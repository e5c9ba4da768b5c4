/** The edges that Terms 3 name for TREES and what is LEARNT, and promises 16 to 18, 22, 25, 34, 38, 39: a sentence a method. */
public final class EdgesOfTreesTest {
    private static final Due DUE = new Due();
    private static final Edge EDGE = new Edge(DUE);
    private static final int NONE = Edge.NONE;
    private static final int MOST = Edge.MOST;
    private static final int LEAST = Edge.LEAST;

    public static void main(String[] args) {
        treeOfNobody();
        treeOfOne();
        clashGoesFirst();
        unlikeInTheLastBit();
        prefixOfAllBits();
        treeOfTwelvePairs();
        whoIsMovedAwayIsNotAsked();
        learntIsInTheirOrder();
        emptyPairIsOne();
        pairsOfPairs();
        sideBySideAlone();
        singleIsNotJoined();
        jammedOnesLearnNothing();
        learntByOverAlone();
        longestRow();
        lastsFiveHundred();
        lastsPromise();
        readerPromise();
        readerOfIdle();
        readerShares();
        prefixPromise();
        learntPromise();
        readPromise();
        bothPromise();
        neverPromise();
        countPromise();
        DUE.end();
    }

    private static void treeOfNobody() {
        DUE.part("Terms 3: TREE: nobody: EMPTY; is the row empty: it is OVER");
        for (int mode = Edge.TREE; mode <= Edge.LEARNT_TREE; mode += 2) {
            TagReaders x = Edge.on(1);
            x.begin(0, 0, 0, 0, mode);
            x.tick(1);
            EDGE.line(x, 1, 1, 0, 1, 0);
            EDGE.line(x, 0, 1, 0, 4, 0);
            EDGE.reader(x, 0, 9, 0, 0, 0, 0, 1, 0, 0, 0);
            EDGE.learnt(x, 0, "e");
        }
    }

    private static void treeOfOne() {
        DUE.part("Terms 3: TREE: one: SINGLE: it is READ");
        for (int mode = Edge.TREE; mode <= Edge.LEARNT_TREE; mode += 2) {
            TagReaders x = Edge.with(1, 0xFFFF);
            x.begin(0, 0, 0, 0, mode);
            x.tick(1);
            EDGE.line(x, 1, 1, 0, 2, 0);
            EDGE.line(x, 0, 1, 0, 4, 1);
            EDGE.reader(x, 0, 9, 0, 0, 0, 1, 0, 0, 0, 0);
            EDGE.learnt(x, 0, "");
        }
    }

    private static void clashGoesFirst() {
        DUE.part("Terms 3: a CLASH: the PREFIX and 0, then the PREFIX and 1 are the first of the row");
        TagReaders x = Edge.with(1, 0x0000, 0x4000, 0x8000);
        x.begin(0, 0, 0, 0, Edge.TREE);
        EDGE.row(x, 0, "");
        x.tick(1);
        EDGE.line(x, 0, 1, 0, 3, 3);
        EDGE.row(x, 0, "0", "1");
        x.tick(1);
        EDGE.line(x, 0, 2, 0, 3, 2);
        EDGE.row(x, 0, "00", "01", "1");
        x.tick(1);
        EDGE.line(x, 0, 3, 0, 2, 0);
        EDGE.row(x, 0, "01", "1");
        x.tick(1);
        EDGE.line(x, 0, 4, 0, 2, 1);
        EDGE.row(x, 0, "1");
        x.tick(1);
        EDGE.line(x, 1, 5, 0, 2, 2);
        EDGE.line(x, 0, 5, 0, 4, 3);
        EDGE.row(x, 0);
        EDGE.learnt(x, 0, "00", "01", "1");
    }

    private static void unlikeInTheLastBit() {
        DUE.part("Terms 3: TREE: IDs that are unlike in bit 15 alone");
        TagReaders x = Edge.with(1, 0xFFFF, 0xFFFE);
        x.begin(0, 0, 0, 0, Edge.TREE);
        DUE.is("16 CLASHES, 15 EMPTY, 2 SINGLE", x.lasts(0), 33);
        x.tick(1);
        EDGE.row(x, 0, "0", "1");
        x.tick(1);
        DUE.is("0: EMPTY", x.log(0, 2), 1);
        EDGE.row(x, 0, "1");
        x.tick(28);
        EDGE.row(x, 0, "111111111111111");
        x.tick(1);
        EDGE.line(x, 0, 31, 0, 3, 2);
        EDGE.row(x, 0, "1111111111111110", "1111111111111111");
        DUE.is("16 bits", x.prefix(0, 1, 1), 65535);
        x.tick(1);
        EDGE.line(x, 0, 32, 0, 2, 1);
        x.tick(1);
        EDGE.line(x, 1, 33, 0, 2, 0);
        EDGE.line(x, 0, 33, 0, 4, 2);
        EDGE.reader(x, 0, 12, 2, 15, 16);
        DUE.is("LEARNT", x.reader(0, 18), 17);
    }

    private static void prefixOfAllBits() {
        DUE.part("Terms 3: TREE: its TAGS whose ID begins with it: a PREFIX of all 16 bits");
        TagReaders x = Edge.with(1, 0x0000, 0x0001);
        x.begin(0, 0, 0, 0, Edge.TREE);
        x.tick(33);
        x.gone(0);
        x.gone(1);
        x.tag(2, Edge.memory(0x0001, 0xFFFF), 1);
        x.begin(0, 0, 0, 0, Edge.LEARNT_TREE);
        x.tick(1);
        EDGE.line(x, 0, 34, 0, 1, 0);
        x.tick(1);
        EDGE.line(x, 0, 35, 0, 2, 2);
        DUE.is("15 PREFIXES are left", x.reader(0, 11), 15);
        x.tick(15);
        EDGE.reader(x, 0, 12, 1, 16, 0);
        DUE.is("over", x.log(0, 2), 4);
    }

    /** 24 TAGS in pairs that are unlike in bit 15 alone, eight of them with 0, four with 1 behind eight heads. */
    private static void treeOfTwelvePairs() {
        DUE.part("Terms 4: QUERIES of 24 TAGS; Terms 3: TREE: no TREE is longer");
        TagReaders x = Edge.on(1);
        int[] heads = {0, 2, 4, 6, 8, 10, 12, 14, 1, 3, 5, 7};
        for (int i = 0; i < 12; i++) {
            x.tag(2 * i, Edge.memory(heads[i] << 12, 0), 1);
            x.tag(2 * i + 1, Edge.memory(heads[i] << 12 | 1, 0), 1);
        }
        // CLASHES: 1, 2, 4, 8 of 0 to 3 bits, 12 of each of 4 to 15: 159.
        DUE.is("queries", x.queries(0, 0, 0, 0), 319);
        x.begin(0, 0, 0, 0, Edge.TREE);
        DUE.is("lasts", x.lasts(0), 319);
        Edge.ticks(x, 318);
        DUE.is("not yet", x.reader(0, 1), 1);
        x.tick(1);
        EDGE.line(x, 0, 319, 0, 4, 24);
        EDGE.reader(x, 0, 12, 24, 136, 159);
        DUE.is("LEARNT", x.reader(0, 18), 160);
        DUE.is("never(1)", x.never(1), 0);
        x.begin(0, 0, 1, 0, Edge.LEARNT_TREE);
        DUE.is("row", x.reader(0, 11), 160);
        DUE.is("lasts", x.lasts(0), 160);
    }

    private static void whoIsMovedAwayIsNotAsked() {
        DUE.part("Terms 3: TREE: its TAGS ANSWER: who is LOST does not");
        TagReaders x = Edge.with(3, 0x0000, 0x8000);
        x.begin(0, 0, 0, 0, Edge.TREE);
        x.tick(1);
        x.move(0, 2);
        x.tick(1);
        EDGE.line(x, 0, 2, 0, 1, 0);
        x.move(0, 3);
        x.tick(1);
        EDGE.line(x, 0, 3, 0, 4, 1);
        DUE.is("not MISSED: it is not of it", x.reader(0, 16), 0);
        EDGE.learnt(x, 0, "0e", "1");
        DUE.is("never(1)", x.never(1), 0);
    }

    private static void learntIsInTheirOrder() {
        DUE.part("Terms 3: LEARNT: all PREFIXES that were EMPTY or SINGLE, in their order");
        TagReaders x = Edge.with(1, 0xE000, 0x0000, 0xC000);
        x.begin(0, 0, 0, 0, Edge.TREE);
        // CLASH of none, 0 SINGLE, 1 CLASH, 10 EMPTY, 11 CLASH, 110 SINGLE, 111 SINGLE.
        x.tick(6);
        EDGE.learnt(x, 0, "");
        x.tick(1);
        EDGE.learnt(x, 0, "0", "10e", "110", "111");
    }

    /** LEARNT 00, 01, 10, 11; the TAGS of the set stay, the others go; a LEARNT TREE is OVER. */
    private static TagReaders quarters(int stay) {
        TagReaders x = Edge.with(1, 0x0000, 0x4000, 0x8000, 0xC000);
        x.begin(0, 0, 0, 0, Edge.TREE);
        x.tick(7);
        EDGE.learnt(x, 0, "00", "01", "10", "11");
        for (int tag = 0; tag < 4; tag++) {
            if ((stay >> tag & 1) == 0) {
                x.gone(tag);
            }
        }
        x.select(0, 0, 0, 0, 0, 0);
        DUE.is("how many stay", x.begin(0, 0, 0, 0, Edge.LEARNT_TREE), Integer.bitCount(stay));
        DUE.is("four QUERIES", x.lasts(0), 4);
        x.tick(4);
        return x;
    }

    private static void emptyPairIsOne() {
        DUE.part("Terms 3: two side by side that were EMPTY both, a PREFIX and 0, that PREFIX and 1: that PREFIX alone (EMPTY)");
        EDGE.learnt(quarters(12), 0, "0e", "10", "11");
        EDGE.learnt(quarters(3), 0, "00", "01", "1e");
        EDGE.learnt(quarters(8), 0, "0e", "10e", "11");
        EDGE.learnt(quarters(1), 0, "00", "01e", "1e");
    }

    private static void pairsOfPairs() {
        DUE.part("Terms 3: LEARNT: as long as there are two: until one of none is left");
        EDGE.learnt(quarters(0), 0, "e");
        TagReaders x = Edge.with(1, 0x0000, 0x0001);
        x.begin(0, 0, 0, 0, Edge.TREE);
        x.tick(33);
        x.gone(0);
        x.gone(1);
        x.begin(0, 0, 0, 0, Edge.LEARNT_TREE);
        x.tick(16);
        DUE.is("not before it is OVER", x.reader(0, 18), 17);
        x.tick(1);
        EDGE.learnt(x, 0, "e");
    }

    private static void sideBySideAlone() {
        DUE.part("Terms 3: LEARNT: two side by side that are no PREFIX and 0, that PREFIX and 1, stay");
        EDGE.learnt(quarters(9), 0, "00", "01e", "10e", "11");
        TagReaders x = Edge.with(1, 0x8000, 0xC000, 0xE000);
        x.begin(0, 0, 0, 0, Edge.TREE);
        x.tick(7);
        // 0 EMPTY and 10 EMPTY are of unlike lengths.
        x.gone(0);
        x.select(0, 0, 0, 0, 0, 0);
        x.begin(0, 0, 0, 0, Edge.LEARNT_TREE);
        x.tick(4);
        EDGE.learnt(x, 0, "0e", "10e", "110", "111");
    }

    private static void singleIsNotJoined() {
        DUE.part("Terms 3: LEARNT: that were EMPTY both: SINGLE ones stay");
        EDGE.learnt(quarters(15), 0, "00", "01", "10", "11");
        EDGE.learnt(quarters(5), 0, "00", "01e", "10", "11e");
        EDGE.learnt(quarters(10), 0, "00e", "01", "10e", "11");
    }

    private static void jammedOnesLearnNothing() {
        DUE.part("Terms 3: LEARNT, as TAGS are JAMMED in the midst");
        TagReaders x = Edge.with(3, 0x0000, 0x4000, 0x8000);
        x.begin(0, 0, 0, 0, Edge.TREE);
        x.tick(1);
        x.begin(1, 1, 1, 0, Edge.SLOTS);
        x.tick(2);
        // Both asked and EMPTY, as it seems: one of none.
        DUE.is("MISSED", x.reader(0, 16), 3);
        EDGE.learnt(x, 0, "e");
    }

    private static void learntByOverAlone() {
        DUE.part("Terms 3: LEARNT (as a TREE, LEARNT or not, is OVER)");
        TagReaders x = Edge.with(1, 0x0000, 0x8000);
        x.begin(0, 3, 1, 0, Edge.TREE);
        x.tick(1);
        EDGE.learnt(x, 0, "e");
        x.begin(0, 0, 0, 0, Edge.TREE);
        x.tick(2);
        x.stop(0);
        EDGE.learnt(x, 0, "e");
        x.begin(0, 1, 0, 0, Edge.LEARNT_TREE);
        x.tick(2);
        x.power(0, false);
        x.power(0, true);
        EDGE.learnt(x, 0, "e");
        x.begin(0, 2, 0, 0, Edge.SLOTS);
        Edge.ticks(x, x.lasts(0));
        x.begin(0, 3, 0, 0, Edge.FRAMES);
        Edge.ticks(x, x.lasts(0));
        DUE.is("OVER: a TREE, SLOTS, FRAMES", x.count(5), 3);
        EDGE.learnt(x, 0, "e");
    }

    /** 22 heads of 5 bits, each LEARNT down to 16 bits by pairs that come one behind another. */
    private static TagReaders longLearnt() {
        TagReaders x = Edge.on(1);
        int[] heads = {0, 12, 18, 21, 22};
        for (int phase = 0; phase < 4; phase++) {
            for (int head = heads[phase]; head < heads[phase + 1]; head++) {
                comeAnywhere(x, head << 11);
                comeAnywhere(x, head << 11 | 1);
            }
            x.select(0, 0, 0, 0, 0, 0);
            x.begin(0, 0, 0, 0, Edge.LEARNT_TREE);
            Edge.ticks(x, x.lasts(0));
            for (int tag = 0; tag < 24; tag++) {
                if ((x.tagOf(tag, 13) & 1) == 1) {
                    x.gone(tag);
                }
            }
        }
        for (int tag = 0; tag < 24; tag++) {
            x.gone(tag);
        }
        return x;
    }

    private static void comeAnywhere(TagReaders x, int id) {
        int tag = 0;
        while (x.tagOf(tag, 13) != NONE - 1) {
            tag++;
        }
        x.tag(tag, Edge.memory(id, 0), 1);
    }

    private static void longestRow() {
        DUE.part("Terms 3: LEARNT: a long row");
        TagReaders x = longLearnt();
        // CLASHES above 22 TAGS of 22 heads: 1, 2, 3, 6, 11 of 0 to 4 bits, 22 of each of 5 to 15: 265.
        DUE.is("LEARNT", x.reader(0, 18), 266);
        x.begin(0, 0, 0, 0, Edge.LEARNT_TREE);
        DUE.is("row", x.reader(0, 11), 266);
        DUE.is("first", x.prefix(0, 0, 0) * 65536 + x.prefix(0, 0, 1), 16 * 65536);
        DUE.is("second", x.prefix(0, 1, 0) * 65536 + x.prefix(0, 1, 1), 16 * 65536 + 1);
        DUE.is("third", x.prefix(0, 2, 0) * 65536 + x.prefix(0, 2, 1), 15 * 65536 + 1);
        DUE.is("last: 11", x.prefix(0, 265, 0) * 65536 + x.prefix(0, 265, 1), 2 * 65536 + 3);
        DUE.is("no more", x.prefix(0, 266, 0), NONE);
        Edge.ticks(x, 266);
        DUE.is("nobody was there", x.log(0, 2), 4);
        EDGE.learnt(x, 0, "e");
    }

    private static void lastsFiveHundred() {
        DUE.part("Terms 4: LASTS: in how many TICKS (0 .. 500) a READER is IDLE; promise 25: NONE if it is not by then");
        TagReaders x = longLearnt();
        for (int head = 0; head < 12; head++) {
            comeAnywhere(x, head << 11 | 1 << 10);
            comeAnywhere(x, head << 11 | 1 << 10 | 1);
        }
        x.begin(0, 0, 0, 0, Edge.LEARNT_TREE);
        // 266 PREFIXES, and two for each of the 10 CLASHES of 12 pairs: 506.
        DUE.is("506", x.lasts(0), NONE);
        x.tick(5);
        EDGE.refused(x, "501", () -> x.lasts(0), NONE);
        x.tick(1);
        EDGE.refused(x, "500", () -> x.lasts(0), 500);
        x.tick(1);
        DUE.is("499", x.lasts(0), 499);
        Edge.ticks(x, 498);
        DUE.is("1", x.lasts(0), 1);
        x.tick(1);
        DUE.is("0", x.lasts(0), 0);
        DUE.is("all READ", x.reader(0, 12), 24);
    }

    private static void lastsPromise() {
        DUE.part("promise 25: LASTS (0: it is IDLE); NONE if it is not by then, or there is none such");
        TagReaders x = Edge.with(3, 1, 2);
        for (int r = 0; r < 4; r++) {
            DUE.is("IDLE", x.lasts(r), 0);
        }
        for (int r : Edge.NO_READERS) {
            DUE.is("lasts(" + r + ")", x.lasts(r), NONE);
        }
        // Each has one TAG that the other one reaches: they JAM each other for ever.
        x.select(0, 4, 0, 15, 1, 1);
        x.begin(0, 0, 0, 1, Edge.SLOTS);
        x.begin(1, 0, 0, 2, Edge.SLOTS);
        DUE.is("for ever", x.lasts(0), NONE);
        DUE.is("for ever", x.lasts(1), NONE);
        DUE.is("nothing of it stays", x.look(0) + x.count(0) + x.count(11), 0);
        x.tune(1, 2, 1);
        DUE.is("it ends", x.lasts(0) > 0, true);
        x.stop(1);
        DUE.is("the one that is IDLE", x.lasts(1), 0);
        x.power(0, false);
        DUE.is("the one that is not ON", x.lasts(0), 0);
    }

    private static void readerPromise() {
        DUE.part("promise 16: NONE if there is none such, or another what");
        TagReaders x = Edge.with(1, 1);
        for (int what : new int[] {-1, 21, LEAST, MOST}) {
            for (int r = 0; r < 4; r++) {
                DUE.is("reader(" + r + ", " + what + ")", x.reader(r, what), NONE);
            }
        }
        for (int r = 0; r < 4; r++) {
            EDGE.reader(x, r, 0, r == 0 ? 1 : 0, 0, 32, 2, 0, 0, 0, 0, 0, 0, 0, 0, 0, 0, 0, 0, 0, 0, 1, 0, 1);
        }
        x.tune(0, 0, 16);
        x.tune(0, 1, 1);
        x.tune(0, 2, 3);
        x.state(Draws.stateFor(4, 1));
        x.begin(0, 3, 0, 2, Edge.SLOTS);
        EDGE.reader(x, 0, 0, 1, 1, 16, 1, 3, 0, 2, 0, 2, 0, 1, 0, 0, 0, 0, 1, 0, 3, 1, 0, 1);
        x.tick(1);
        EDGE.reader(x, 0, 0, 1, 1, 15, 1, 3, 0, 2, 0, 2, 1, 1, 0, 0, 1, 0, 1, 0, 3, 1, 0, 1);
    }

    private static void readerOfIdle() {
        DUE.part("promise 16: 4 to 7 of the latest; 8 of the latest by SLOTS, FRAMES; 9 to 11: 0, if it is IDLE; 12 to 16 of the latest");
        TagReaders x = Edge.with(1, 0x0000, 0x8000);
        x.tune(0, 0, 64);
        x.begin(0, 0, 0, 0, Edge.SLOTS);
        x.tick(1);
        x.stop(0);
        DUE.is("q", x.reader(0, 8), 8);
        x.begin(0, 2, 1, 1, Edge.LEARNT_TREE);
        EDGE.reader(x, 0, 4, 2, 1, 1, 3, 8, 0, 0, 1, 0, 0, 0, 0, 0);
        x.tick(1);
        EDGE.reader(x, 0, 4, 2, 1, 1, 3, 8, 0, 0, 0, 0, 1, 0, 0, 0);
        x.begin(0, 1, 0, 2, Edge.TREE);
        x.tick(2);
        EDGE.reader(x, 0, 4, 1, 0, 2, 1, 8, 0, 1, 1, 1, 0, 1, 0, 0);
        x.stop(0);
        EDGE.reader(x, 0, 4, 1, 0, 2, 1, 8, 0, 0, 0, 1, 0, 1, 0, 0);
        x.begin(0, 1, 0, 0, Edge.FRAMES);
        x.tick(2);
        DUE.is("q", x.reader(0, 8), 2);
        DUE.is("SLOTS gone", x.reader(0, 9), 2);
        x.power(0, false);
        EDGE.reader(x, 0, 7, 2, 2, 0, 0, 0);
    }

    private static void readerShares() {
        DUE.part("promise 16: its SINGLES by its SLOTS and QUERIES as a fraction in lowest terms (none yet: 0 by 1)");
        TagReaders x = Edge.with(1, 0x0000, 0x8000);
        DUE.is("none yet", x.reader(0, 19) * 100 + x.reader(0, 20), 1);
        x.begin(0, 0, 0, 0, Edge.TREE);
        DUE.is("none yet", x.reader(0, 19) * 100 + x.reader(0, 20), 1);
        x.tick(1);
        DUE.is("0 by 1", x.reader(0, 19) * 100 + x.reader(0, 20), 1);
        x.tick(1);
        DUE.is("1 by 2", x.reader(0, 19) * 100 + x.reader(0, 20), 102);
        x.tick(1);
        DUE.is("2 by 3", x.reader(0, 19) * 100 + x.reader(0, 20), 203);
        x.begin(0, 0, 0, 0, Edge.TREE);
        DUE.is("of the latest: none yet", x.reader(0, 19) * 100 + x.reader(0, 20), 1);
        x.tick(1);
        DUE.is("0 by 1", x.reader(0, 19) * 100 + x.reader(0, 20), 1);
        x.gone(1);
        x.begin(0, 0, 1, 0, Edge.TREE);
        x.tick(1);
        DUE.is("1 by 1", x.reader(0, 19) * 100 + x.reader(0, 20), 101);
        TagReaders y = Edge.on(1);
        y.begin(0, 0, 0, 0, Edge.FRAMES);
        y.tick(3);
        DUE.is("0 by 3 is 0 by 1", y.reader(0, 19) * 100 + y.reader(0, 20), 1);
        TagReaders z = Edge.with(1, 1, 2);
        z.state(Draws.stateFor(4, 0, 2));
        z.begin(0, 0, 0, 0, Edge.FRAMES);
        z.tick(4);
        DUE.is("2 by 4 is 1 by 2", z.reader(0, 19) * 100 + z.reader(0, 20), 102);
    }

    private static void prefixPromise() {
        DUE.part("promise 17: the i-th PREFIX (0: the first); NONE if there is none such, or another what");
        TagReaders x = Edge.with(1, 0x0000, 0x8000);
        DUE.is("IDLE", x.prefix(0, 0, 0), NONE);
        x.begin(0, 0, 0, 0, Edge.TREE);
        x.tick(1);
        for (int i : new int[] {-1, 2, 300, 511, 512, 513, LEAST, MOST}) {
            DUE.is("prefix(0, " + i + ", 0)", x.prefix(0, i, 0), NONE);
            DUE.is("prefix(0, " + i + ", 1)", x.prefix(0, i, 1), NONE);
        }
        for (int what : new int[] {-1, 2, 3, LEAST, MOST}) {
            DUE.is("prefix(0, 0, " + what + ")", x.prefix(0, 0, what), NONE);
        }
        EDGE.row(x, 0, "0", "1");
        x.tick(2);
        DUE.is("OVER", x.prefix(0, 0, 0), NONE);
        x.begin(0, 1, 0, 0, Edge.SLOTS);
        DUE.is("SLOTS have none", x.prefix(0, 0, 0), NONE);
    }

    private static void learntPromise() {
        DUE.part("promise 18: the i-th PREFIX that a READER has LEARNT likewise, 2 whether it was EMPTY (1, 0)");
        TagReaders x = Edge.with(1, 0x0000, 0x4000);
        for (int r = 0; r < 4; r++) {
            EDGE.learnt(x, r, "");
        }
        x.begin(0, 0, 0, 0, Edge.TREE);
        x.tick(5);
        EDGE.learnt(x, 0, "00", "01", "1e");
        for (int i : new int[] {-1, 3, 300, 511, 512, 513, LEAST, MOST}) {
            for (int what = 0; what <= 2; what++) {
                DUE.is("learnt(0, " + i + ", " + what + ")", x.learnt(0, i, what), NONE);
            }
        }
        for (int what : new int[] {-1, 3, LEAST, MOST}) {
            DUE.is("learnt(0, 0, " + what + ")", x.learnt(0, 0, what), NONE);
        }
    }

    private static void readPromise() {
        DUE.part("promise 22: the i-th TAG that a READER READ (0: the first); NONE if there is none such");
        TagReaders x = Edge.on(1);
        for (int i = 0; i < 24; i++) {
            x.tag(i, Edge.memory(23 - i, 0), 1);
        }
        DUE.is("none yet", x.read(0, 0), NONE);
        x.begin(0, 0, 0, 0, Edge.TREE);
        Edge.ticks(x, 71);
        for (int i = 0; i < 24; i++) {
            DUE.is("read(0, " + i + ")", x.read(0, i), 23 - i);
        }
        for (int i : new int[] {-1, 24, 25, LEAST, MOST}) {
            DUE.is("read(0, " + i + ")", x.read(0, i), NONE);
        }
        DUE.is("another READER", x.read(1, 0), NONE);
        x.begin(0, 1, 1, 0, Edge.TREE);
        DUE.is("the latest READ none", x.read(0, 0), NONE);
    }

    private static void bothPromise() {
        DUE.part("promise 34: READ by both of two READERS; NONE if there are none such, or they are one");
        TagReaders x = Edge.with(3, 0x0000, 0x8000);
        for (int r = 0; r < 4; r++) {
            DUE.is("one", x.both(r, r), NONE);
            DUE.is("none was READ", x.both(r, 3 - r), 0);
        }
        for (int r : Edge.NO_READERS) {
            DUE.is("one, not there", x.both(r, r), NONE);
            DUE.is("both(" + r + ", 3)", x.both(r, 3), NONE);
            DUE.is("both(3, " + r + ")", x.both(3, r), NONE);
        }
        x.begin(0, 1, 0, 0, Edge.TREE);
        x.tick(3);
        DUE.is("by one of them alone", x.both(0, 1), 0);
        x.begin(1, 1, 1, 0, Edge.TREE);
        x.tick(2);
        DUE.is("one by both yet", x.both(0, 1), 1);
        x.stop(1);
        DUE.is("BROKEN: READ all the same", x.both(1, 0), 1);
        x.gone(0);
        DUE.is("it is not there", x.both(0, 1), 0);
        TagReaders y = Edge.full(12);
        y.begin(2, 1, 0, 0, Edge.TREE);
        Edge.ticks(y, 71);
        y.set(0, 200);
        y.begin(3, 2, 0, 0, Edge.TREE);
        Edge.ticks(y, 71);
        DUE.is("all 24 by both", y.both(2, 3), 24);
        y.gone(23);
        DUE.is("one went", y.both(3, 2), 23);
    }

    private static void neverPromise() {
        DUE.part("promise 38: NONE for another what");
        TagReaders x = Edge.full(3);
        for (int what : new int[] {-1, 3, LEAST, MOST}) {
            DUE.is("never(" + what + ")", x.never(what), NONE);
        }
        x.begin(0, 0, 0, 0, Edge.TREE);
        Edge.ticks(x, 30);
        x.move(20, 2);
        x.gone(21);
        x.begin(1, 0, 0, 0, Edge.SLOTS);
        Edge.ticks(x, 60);
        x.power(0, false);
        x.power(1, false);
        for (int what = 0; what <= 2; what++) {
            DUE.is("never(" + what + ")", x.never(what), 0);
        }
    }

    private static void countPromise() {
        DUE.part("promise 39: NONE for another what");
        TagReaders x = Edge.with(1, 0x0000, 0x8000);
        for (int what : new int[] {-1, 14, LEAST, MOST}) {
            DUE.is("count(" + what + ")", x.count(what), NONE);
        }
        for (int what = 0; what <= 13; what++) {
            DUE.is("count(" + what + ")", x.count(what), 0);
        }
        x.begin(0, 0, 0, 0, Edge.TREE);
        x.tick(3);
        x.put(0, 0, 16, 1, 1);
        x.select(0, 4, 0, 0, 0, 0);
        x.begin(0, 1, 0, 0, Edge.FRAMES);
        x.move(1, 0);
        x.stop(0);
        // SLOTS and QUERIES 3, EMPTY 0, SINGLE 2, CLASH 1, FRAMES 1, OVER 1, BROKEN 1, LOST 1, to B 2, FADED 1, ..
        int[] due = {3, 0, 2, 1, 1, 1, 1, 1, 2, 1, 1, 0, 0, 1};
        for (int what = 0; what <= 13; what++) {
            DUE.is("count(" + what + ")", x.count(what), due[what]);
        }
    }
}
