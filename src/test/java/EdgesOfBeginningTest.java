/** The edges that Terms 2 name, with promises 9 to 12, 23, 24: a sentence a method. */
public final class EdgesOfBeginningTest {
    private static final Due DUE = new Due();
    private static final Edge EDGE = new Edge(DUE);
    private static final int NONE = Edge.NONE;
    private static final int MOST = Edge.MOST;
    private static final int LEAST = Edge.LEAST;

    public static void main(String[] args) {
        selectWantsOnAndIdle();
        selectFlags();
        selectWaysAreEight();
        selectSpans();
        selectMaskHasItsLowestBits();
        selectByNoBits();
        selectOfNoTags();
        selectOfAllTags();
        selectLeavesBusyAside();
        selectWaysDo();
        selectPromise();
        beginWantsOnAndIdle();
        beginBounds();
        beginOfNoTags();
        beginOfAllTags();
        beginLeavesBusyAside();
        beginByTargetAndSort();
        qIsCut();
        drawsByNumbers();
        framesBeginWithTwo();
        treeBeginsWithNone();
        learntTreeBeginsWithWhatIsLearnt();
        putWantsOnAndIdle();
        putWantsReachedNotBusyReadLast();
        putSpans();
        putBits();
        stopPromise();
        wouldHavePromise();
        queriesPromise();
        DUE.end();
    }

    private static void selectWantsOnAndIdle() {
        DUE.part("Terms 2: a READER that is ON and IDLE SELECTS");
        TagReaders x = Edge.with(2, 1, 2);
        x.move(0, 3);
        EDGE.refused(x, "not ON", () -> x.select(0, 4, 0, 0, 0, 0), NONE);
        DUE.is("ON", x.power(0, true), true);
        DUE.is("ON and IDLE", x.select(0, 4, 0, 0, 0, 0), 1);
        for (int mode = 0; mode < 4; mode++) {
            x.begin(0, 3, 1, 0, mode);
            EDGE.refused(x, "not IDLE, mode " + mode, () -> x.select(0, 4, 0, 0, 0, 0), NONE);
            DUE.is("another READER is IDLE", x.select(1, 4, 0, 0, 0, 0), 2);
            x.stop(0);
            DUE.is("IDLE again", x.select(0, 4, 0, 0, 0, 0), 1);
        }
        x.begin(0, 3, 1, 0, Edge.TREE);
        x.tick(1);
        DUE.is("OVER: IDLE", x.select(0, 4, 0, 0, 0, 0), 1);
        x.power(0, false);
        EDGE.refused(x, "off", () -> x.select(0, 4, 0, 0, 0, 0), NONE);
    }

    private static void selectFlags() {
        DUE.part("Terms 2: a FLAG (0 .. 3 of that SESSION, 4 SELECTED)");
        TagReaders x = Edge.with(1, 1);
        for (int flag : new int[] {-1, 5, 31, 32, LEAST, MOST}) {
            EDGE.refused(x, "FLAG " + flag, () -> x.select(0, flag, 3, 0, 0, 0), NONE);
        }
        for (int flag = 0; flag <= 4; flag++) {
            DUE.is("FLAG " + flag, x.select(0, flag, 3, 0, 0, 0), 1);
            DUE.is("is turned", x.tagOf(0, flag), 1);
        }
    }

    private static void selectWaysAreEight() {
        DUE.part("Terms 2: a WAY 0 .. 7");
        TagReaders x = Edge.with(1, 1);
        for (int way : new int[] {-1, 8, LEAST, MOST}) {
            EDGE.refused(x, "WAY " + way, () -> x.select(0, 4, way, 0, 0, 0), NONE);
        }
        for (int way = 0; way < 8; way++) {
            DUE.is("WAY " + way, x.select(0, 4, way, 0, 0, 0), 1);
        }
        DUE.is("SELECTS", x.count(10), 8);
    }

    private static void selectSpans() {
        DUE.part("Terms 2: a SPAN of bits from p (0 .. 31) on, n of them (0 to 32 less p)");
        TagReaders x = Edge.with(1, 0xFFFF);
        for (int p = 0; p < 32; p++) {
            int from = p;
            DUE.is("none from " + p, x.select(0, 4, 0, p, 0, 0), 1);
            DUE.is("all from " + p, x.select(0, 4, 0, p, 32 - p, p < 16 ? (int) (0xFFFF0000L << p >>> p) : 0), 1);
            EDGE.refused(x, "one too many from " + p, () -> x.select(0, 4, 0, from, 33 - from, 0), NONE);
            EDGE.refused(x, "-1 from " + p, () -> x.select(0, 4, 0, from, -1, 0), NONE);
        }
        int[][] wrong = {{-1, 0}, {-1, 1}, {32, 0}, {32, 1}, {LEAST, 0}, {MOST, 0}, {0, MOST}, {31, MOST}, {MOST, MOST},
            {0, LEAST}, {LEAST, LEAST}, {-2, 3}};
        for (int[] a : wrong) {
            EDGE.refused(x, "p " + a[0] + ", n " + a[1], () -> x.select(0, 4, 0, a[0], a[1], 0), NONE);
        }
    }

    private static void selectMaskHasItsLowestBits() {
        DUE.part("Terms 2: a MASK (its lowest n bits)");
        TagReaders x = Edge.on(1);
        x.tag(0, 0x80000001, 1);
        DUE.is("1 of -1", x.select(0, 4, 0, 0, 1, -1), 1);
        DUE.is("1 of FFFFFFFE", x.select(0, 4, 0, 0, 1, -2), 0);
        DUE.is("1 of 7FFFFFFF", x.select(0, 4, 0, 31, 1, MOST), 1);
        DUE.is("2 of 80000002", x.select(0, 4, 0, 0, 2, 0x80000002), 1);
        DUE.is("31 of 80000001 are 1", x.select(0, 4, 0, 1, 31, 0x80000001), 1);
        DUE.is("31 of 40000000", x.select(0, 4, 0, 0, 31, 0x40000000), 1);
        DUE.is("31 of C0000000", x.select(0, 4, 0, 0, 31, 0xC0000000), 1);
        DUE.is("32 of 80000001", x.select(0, 4, 0, 0, 32, 0x80000001), 1);
        DUE.is("32 of 00000001", x.select(0, 4, 0, 0, 32, 1), 0);
        DUE.is("32 of 80000000", x.select(0, 4, 0, 0, 32, LEAST), 0);
    }

    private static void selectByNoBits() {
        DUE.part("Terms 2: those whose bits of the SPAN are the MASK (all, if n is 0)");
        TagReaders x = Edge.full(1);
        for (int p = 0; p < 32; p++) {
            DUE.is("from " + p, x.select(0, 4, p % 2 == 0 ? 0 : 4, p, 0, p % 3 - 1), 24);
            DUE.is("SELECTED", x.look(7), p % 2 == 0 ? 24 : 0);
        }
        DUE.is("any MASK", x.select(0, 4, 0, 0, 0, LEAST), 24);
    }

    private static void selectOfNoTags() {
        DUE.part("Terms 2: all TAGS that it reaches: none");
        TagReaders x = Edge.with(3, 1, 2);
        x.move(0, 2);
        x.move(1, 2);
        DUE.is("reaches none", x.select(0, 4, 0, 0, 0, 0), 0);
        EDGE.line(x, 0, 0, 0, 6, 0);
        DUE.is("is a SELECT all the same", x.count(10), 1);
        DUE.is("the others stay", x.look(7), 0);
        DUE.is("none there", Edge.on(1).select(0, 4, 0, 0, 0, 0), 0);
    }

    private static void selectOfAllTags() {
        DUE.part("Terms 2: all TAGS that it reaches: 24");
        TagReaders x = Edge.full(8);
        DUE.is("by READER 3", x.select(3, 4, 0, 0, 0, 0), 24);
        DUE.is("SELECTED", x.look(7), 24);
        EDGE.line(x, 0, 0, 3, 6, 24);
        DUE.is("those with bit 15", x.select(3, 4, 0, 15, 1, 1), 12);
        DUE.is("SELECTED", x.look(7), 12);
        DUE.is("ID 23 alone", x.select(3, 4, 0, 0, 16, 23), 1);
        DUE.is("SELECTED", x.look(7), 1);
        DUE.is("TAG 23", x.tagOf(23, 4), 1);
    }

    private static void selectLeavesBusyAside() {
        DUE.part("Terms 2: all TAGS that are not BUSY");
        TagReaders x = Edge.with(3, 1, 2, 3);
        x.move(2, 1);
        DUE.is("0 and 1 are BUSY with READER 1", x.begin(1, 0, 0, 0, Edge.TREE), 2);
        for (int way = 0; way < 8; way++) {
            DUE.is("2 alone, WAY " + way, x.select(0, 4, way, 0, 0, 0), 1);
            DUE.is("0 and 1 stay", x.tagOf(0, 4) + x.tagOf(1, 4), 0);
            x.select(0, 4, way, 0, 16, 0);
            DUE.is("0 and 1 do not do the second", x.tagOf(0, 4) + x.tagOf(1, 4), 0);
        }
        x.move(2, 2);
        DUE.is("all it reaches are BUSY", x.select(0, 4, 1, 0, 0, 0), 0);
        x.stop(1);
        DUE.is("not BUSY any more", x.select(0, 4, 1, 0, 0, 0), 2);
    }

    /** By the WAY, for FLAGS of SESSIONS: what the first and the others have, from A and from B (YES is A there). */
    private static void selectWaysDo() {
        DUE.part("Terms 2: 0 YES, NO; 1 YES, -; 2 -, NO; 3 TURN, -; 4 NO, YES; 5 NO, -; 6 -, YES; 7 -, TURN");
        String[] ways = {"AABB", "AAAB", "ABBB", "BAAB", "BBAA", "BBAB", "ABAA", "ABBA"};
        // SELECTED: YES is 1, which A stands for 0 here.
        String[] selected = {"BBAA", "BBAB", "ABAA", "BAAB", "AABB", "AAAB", "ABBB", "ABBA"};
        for (int flag = 0; flag <= 4; flag++) {
            for (int way = 0; way < 8; way++) {
                TagReaders x = Edge.on(1);
                x.tag(0, 0x80000000, 1);
                x.tag(1, 0xC0000000, 1);
                x.tag(2, 0x00000000, 1);
                x.tag(3, 0x40000000, 1);
                // 1 and 3 from B (1), 0 and 2 from A (0); those with bit 0 do the first.
                x.select(0, flag, flag == 4 ? 1 : 5, 1, 1, 1);
                DUE.is("how many did the first, if nothing, too", x.select(0, flag, way, 0, 1, 1), 2);
                String due = flag == 4 ? selected[way] : ways[way];
                for (int tag = 0; tag < 4; tag++) {
                    DUE.is("FLAG " + flag + ", WAY " + way + ", TAG " + tag, x.tagOf(tag, flag), due.charAt(tag) - 'A');
                }
            }
        }
    }

    private static void selectPromise() {
        DUE.part("promise 9: how many did the first; NONE if one can't be");
        TagReaders x = Edge.full(1);
        DUE.is("none of 24", x.select(0, 0, 0, 0, 16, 24), 0);
        DUE.is("one", x.select(0, 0, 0, 0, 16, 0), 1);
        DUE.is("all", x.select(0, 0, 0, 0, 8, 0), 24);
        EDGE.line(x, 0, 0, 0, 6, 24);
        EDGE.line(x, 2, 0, 0, 6, 0);
        EDGE.refused(x, "all wrong", () -> x.select(4, 5, 8, 32, 33, 0), NONE);
        DUE.is("READER 1 is not ON", x.select(1, 0, 0, 0, 0, 0), NONE);
    }

    private static void beginWantsOnAndIdle() {
        DUE.part("Terms 2: a READER that is ON and IDLE begins to TAKE STOCK");
        TagReaders x = Edge.with(2, 1, 2);
        EDGE.refused(x, "not ON", () -> x.begin(0, 0, 0, 0, 0), NONE);
        x.power(0, true);
        for (int mode = 0; mode < 4; mode++) {
            DUE.is("ON and IDLE", x.begin(0, 0, 0, 0, mode), 0);
            for (int other = 0; other < 4; other++) {
                int second = other;
                EDGE.refused(x, "not IDLE", () -> x.begin(0, 1, 1, 1, second), NONE);
            }
            x.stop(0);
        }
        DUE.is("begins", x.begin(0, 0, 0, 0, Edge.TREE), 0);
        x.tick(1);
        DUE.is("OVER: begins again", x.begin(0, 0, 0, 0, Edge.TREE), 0);
        x.power(0, false);
        EDGE.refused(x, "off", () -> x.begin(0, 0, 0, 0, 0), NONE);
    }

    private static void beginBounds() {
        DUE.part("promise 11: NONE if one can't be: SESSION 0 .. 3, TARGET A, B, SORT 0 .. 2, MODE 0 .. 3");
        TagReaders x = Edge.with(1, 1);
        int[] most = {3, 1, 2, 3};
        for (int place = 0; place < 4; place++) {
            for (int v : new int[] {-1, most[place] + 1, LEAST, MOST}) {
                int[] a = new int[4];
                a[place] = v;
                String call = "begin(0, " + a[0] + ", " + a[1] + ", " + a[2] + ", " + a[3] + ")";
                EDGE.refused(x, call, () -> x.begin(0, a[0], a[1], a[2], a[3]), NONE);
            }
        }
        for (int session = 0; session <= 3; session++) {
            for (int mode = 0; mode <= 3; mode++) {
                DUE.is("A, all", x.begin(0, session, 0, 0, mode), 1);
                EDGE.reader(x, 0, 4, session, 0, 0, mode);
                x.stop(0);
                DUE.is("B, SELECTED", x.begin(0, session, 1, 1, mode), 0);
                EDGE.reader(x, 0, 4, session, 1, 1, mode);
                x.stop(0);
                DUE.is("A, not SELECTED", x.begin(0, session, 0, 2, mode), 1);
                EDGE.reader(x, 0, 4, session, 0, 2, mode);
                x.stop(0);
            }
        }
    }

    private static void beginOfNoTags() {
        DUE.part("Terms 2: the TAGS are of it: none");
        for (int mode = 0; mode < 4; mode++) {
            TagReaders x = Edge.on(1);
            DUE.is("begin", x.begin(0, 0, 0, 0, mode), 0);
            DUE.is("TAKES STOCK all the same", x.reader(0, 1), 1);
            DUE.is("TAGS of it", x.reader(0, 10), 0);
            DUE.is("PREFIXES", x.reader(0, 11), mode % 2);
            DUE.is("FRAMES begun", x.reader(0, 15), 1 - mode % 2);
            DUE.is("no DRAW", x.look(1), 0);
            EDGE.line(x, 0, 0, 0, 0, 0);
        }
    }

    private static void beginOfAllTags() {
        DUE.part("Terms 2: the TAGS are of it: 24, BUSY with it");
        for (int mode = 0; mode < 4; mode++) {
            TagReaders x = Edge.full(4);
            DUE.is("begin", x.begin(2, 0, 0, 0, mode), 24);
            DUE.is("TAGS of it", x.reader(2, 10), 24);
            DUE.is("BUSY", x.look(6), 24);
            EDGE.line(x, 0, 0, 2, 0, 24);
            for (int tag = 0; tag < 24; tag++) {
                DUE.is("BUSY with READER 2", x.tagOf(tag, 6), 2);
                DUE.is("a SLOT", x.tagOf(tag, 7) == NONE, mode % 2 == 1);
            }
        }
    }

    private static void beginLeavesBusyAside() {
        DUE.part("Terms 2: the TAGS, not BUSY");
        TagReaders x = Edge.full(3);
        DUE.is("all", x.begin(0, 0, 0, 0, Edge.SLOTS), 24);
        DUE.is("none left", x.begin(1, 0, 0, 0, Edge.SLOTS), 0);
        DUE.is("with READER 0 yet", x.tagOf(0, 6), 0);
        x.stop(0);
        DUE.is("not BUSY, but not taken by READER 1", x.look(6), 0);
        x.stop(1);
        x.move(5, 2);
        DUE.is("those it reaches", x.begin(0, 0, 0, 0, Edge.SLOTS), 23);
        DUE.is("the one left", x.begin(1, 0, 0, 0, Edge.SLOTS), 1);
        DUE.is("BUSY with READER 1", x.tagOf(5, 6), 1);
    }

    private static void beginByTargetAndSort() {
        DUE.part("Terms 2: whose FLAG of the SESSION is the TARGET, of the SORT (0 all, 1 SELECTED, 2 not)");
        TagReaders x = Edge.full(1);
        int[][] first = {{24, 0, 24}, {0, 0, 0}};
        sorts(x, 2, first);
        x.select(0, 4, 0, 0, 0, 0);
        int[][] selected = {{24, 24, 0}, {0, 0, 0}};
        sorts(x, 2, selected);
        x.select(0, 2, 5, 0, 0, 0);
        int[][] turned = {{0, 0, 0}, {24, 24, 0}};
        sorts(x, 2, turned);
        x.select(0, 4, 0, 0, 16, 23);
        x.select(0, 2, 0, 0, 15, 11);
        // 22 and 23 are A, the others B; 23 alone is SELECTED.
        int[][] mixed = {{2, 1, 1}, {22, 0, 22}};
        sorts(x, 2, mixed);
    }

    private static void sorts(TagReaders x, int session, int[][] due) {
        for (int target = 0; target <= 1; target++) {
            for (int sort = 0; sort <= 2; sort++) {
                String call = "TARGET " + target + ", SORT " + sort;
                DUE.is("wouldHave, " + call, x.wouldHave(0, session, target, sort), due[target][sort]);
                DUE.is("begin, " + call, x.begin(0, session, target, sort, 1), due[target][sort]);
                DUE.is("BUSY", x.look(6), due[target][sort]);
                x.stop(0);
            }
        }
    }

    private static void qIsCut() {
        DUE.part("Terms 2: q is QF and 4 by 8 (cut): 0 .. 8; a FRAME of 2 to the q SLOTS");
        int[] leastQf = {0, 4, 12, 20, 28, 36, 44, 52, 60, 65};
        TagReaders x = Edge.with(1, 1);
        for (int q = 0; q <= 8; q++) {
            for (int qf = leastQf[q]; qf < leastQf[q + 1]; qf++) {
                x.tune(0, 0, qf);
                x.begin(0, 0, 0, 0, Edge.SLOTS);
                DUE.is("q by QF " + qf, x.reader(0, 8), q);
                DUE.is("QF stays", x.reader(0, 2), qf);
                x.stop(0);
            }
        }
    }

    private static void drawsByNumbers() {
        DUE.part("Terms 2: each TAG of it, by numbers, has a DRAW of these");
        // DRAWS of 16 from STATE 0 on: 3, 9, 6.
        TagReaders x = Edge.on(1);
        x.tag(23, Edge.memory(1, 0), 1);
        x.tag(0, Edge.memory(3, 0), 1);
        x.tag(7, Edge.memory(2, 0), 1);
        x.tag(3, Edge.memory(4, 0), 2);
        x.begin(0, 0, 0, 0, Edge.SLOTS);
        DUE.is("TAG 0 first", x.tagOf(0, 7), 3);
        DUE.is("then TAG 7", x.tagOf(7, 7), 9);
        DUE.is("then TAG 23", x.tagOf(23, 7), 6);
        DUE.is("TAG 3 is not of it", x.tagOf(3, 7), NONE);
        DUE.is("three DRAWS", x.look(1), 0xD1CCF6E9);
    }

    private static void framesBeginWithTwo() {
        DUE.part("Terms 2: FRAMES: likewise, but q is 2");
        for (int qf : new int[] {0, 32, 64}) {
            TagReaders x = Edge.with(1, 1, 2, 3);
            x.tune(0, 0, qf);
            x.begin(0, 0, 0, 0, Edge.FRAMES);
            DUE.is("q", x.reader(0, 8), 2);
            DUE.is("QF", x.reader(0, 2), qf);
            EDGE.slots(x, 3, 1, 2);
            EDGE.reader(x, 0, 9, 0, 3, 0, 0, 0, 0, 1, 0);
        }
    }

    private static void treeBeginsWithNone() {
        DUE.part("Terms 2: TREE: a row of PREFIXES (bits): one of none");
        TagReaders x = Edge.with(1, 0x8000, 0x0000);
        for (int round = 0; round < 2; round++) {
            x.begin(0, 0, 0, 0, Edge.TREE);
            EDGE.row(x, 0, "");
            DUE.is("no SLOT", x.tagOf(0, 7), NONE);
            DUE.is("no FRAME", x.reader(0, 15), 0);
            x.tick(3);
            DUE.is("LEARNT is not for a TREE", x.reader(0, 18), 2);
            x.select(0, 0, 0, 0, 0, 0);
        }
    }

    private static void learntTreeBeginsWithWhatIsLearnt() {
        DUE.part("Terms 2: LEARNT TREE: a row of what the READER has LEARNT (at first one of none)");
        TagReaders x = Edge.with(3, 0x8000, 0x0000, 0xC000);
        x.begin(0, 0, 0, 0, Edge.LEARNT_TREE);
        EDGE.row(x, 0, "");
        EDGE.learnt(x, 0, "");
        x.tick(5);
        EDGE.learnt(x, 0, "0", "10", "11");
        EDGE.row(x, 0);
        EDGE.learnt(x, 1, "");
        x.begin(0, 1, 0, 0, Edge.LEARNT_TREE);
        EDGE.row(x, 0, "0", "10", "11");
        x.begin(1, 2, 0, 0, Edge.LEARNT_TREE);
        EDGE.row(x, 1, "");
        DUE.is("a row has no e", x.prefix(0, 0, 2), NONE);
    }

    private static TagReaders afterRead() {
        TagReaders x = Edge.with(3, 1);
        x.begin(0, 0, 0, 0, Edge.TREE);
        x.tick(1);
        return x;
    }

    private static void putWantsOnAndIdle() {
        DUE.part("Terms 3: by hand: a READER that is ON and IDLE PUTS bits into a TAG");
        TagReaders x = afterRead();
        DUE.is("ON and IDLE", x.put(0, 0, 16, 1, 1), true);
        for (int mode = 0; mode < 4; mode++) {
            x.begin(0, 0, 0, 0, mode);
            EDGE.refused(x, "not IDLE", () -> x.put(0, 0, 16, 1, 0));
            x.stop(0);
        }
        x.power(0, false);
        EDGE.refused(x, "not ON", () -> x.put(0, 0, 16, 1, 0));
        x.power(0, true);
        DUE.is("ON again", x.put(0, 0, 16, 1, 0), true);
        DUE.is("PUTS", x.count(13), 2);
    }

    private static void putWantsReachedNotBusyReadLast() {
        DUE.part("Terms 3: by hand: into a TAG that it reaches, that is not BUSY, and that it READ last");
        TagReaders x = afterRead();
        x.tag(1, Edge.memory(2, 0), 3);
        EDGE.refused(x, "never READ", () -> x.put(0, 1, 16, 1, 1));
        EDGE.refused(x, "no TAG", () -> x.put(0, 2, 16, 1, 1));
        EDGE.refused(x, "READ last by another", () -> x.put(1, 0, 16, 1, 1));
        x.move(0, 2);
        EDGE.refused(x, "not reached", () -> x.put(0, 0, 16, 1, 1));
        x.move(0, 3);
        x.begin(1, 1, 0, 0, Edge.TREE);
        EDGE.refused(x, "BUSY", () -> x.put(0, 0, 16, 1, 1));
        x.stop(1);
        DUE.is("not BUSY", x.put(0, 0, 16, 1, 1), true);
        x.gone(1);
        x.begin(1, 1, 0, 0, Edge.TREE);
        x.tick(1);
        EDGE.refused(x, "READ since by another", () -> x.put(0, 0, 16, 1, 0));
        DUE.is("the other may", x.put(1, 0, 16, 1, 0), true);
        x.gone(0);
        EDGE.refused(x, "it went", () -> x.put(1, 0, 16, 1, 1));
        x.tag(0, Edge.memory(1, 0), 3);
        EDGE.refused(x, "it is new", () -> x.put(1, 0, 16, 1, 1));
    }

    private static void putSpans() {
        DUE.part("Terms 3: by hand: n bits of MEMORY from p on (p 16 .. 31)");
        TagReaders x = afterRead();
        for (int p = 16; p < 32; p++) {
            int from = p;
            DUE.is("one from " + p, x.put(0, 0, p, 1, 1), true);
            DUE.is("is there", x.bits(0, p, 1), 1);
            DUE.is("all from " + p, x.put(0, 0, p, 32 - p, 0), true);
            DUE.is("are there", x.bits(0, p, 32 - p), 0);
            EDGE.refused(x, "one too many from " + p, () -> x.put(0, 0, from, 33 - from, -1));
            EDGE.refused(x, "-1 from " + p, () -> x.put(0, 0, from, -1, -1));
        }
        int[][] wrong = {{15, 1}, {0, 1}, {0, 32}, {15, 17}, {32, 1}, {32, 0}, {-1, 1}, {LEAST, 1}, {MOST, 1}, {16, MOST},
            {MOST, MOST}, {16, LEAST}};
        for (int[] a : wrong) {
            EDGE.refused(x, "p " + a[0] + ", n " + a[1], () -> x.put(0, 0, a[0], a[1], -1));
        }
        DUE.is("PUTS", x.count(13), 32);
    }

    private static void putBits() {
        DUE.part("Terms 3: by hand: PUTS bits: these alone");
        TagReaders x = afterRead();
        x.put(0, 0, 16, 16, 0xFFFF);
        DUE.is("all 16", x.bits(0, 0, 31), 0x0000FFFF);
        x.put(0, 0, 20, 4, 0);
        DUE.is("4 of the midst", x.bits(0, 16, 16), 0xF0FF);
        x.put(0, 0, 20, 4, 10);
        DUE.is("bit p is the highest of them", x.bits(0, 16, 16), 0xFAFF);
        x.put(0, 0, 31, 1, 0);
        DUE.is("the last", x.bits(0, 16, 16), 0xFAFE);
        x.put(0, 0, 16, 1, 0);
        DUE.is("the first", x.bits(0, 16, 16), 0x7AFE);
        DUE.is("the ID stays", x.tagOf(0, 13), 1);
    }

    private static void stopPromise() {
        DUE.part("promise 12: it is BROKEN: true; false if the READER does not TAKE STOCK, or there is none such");
        TagReaders x = Edge.with(3, 1, 2);
        for (int r : new int[] {0, 2, -1, 4, LEAST, MOST}) {
            EDGE.refused(x, "stop(" + r + ")", () -> x.stop(r));
        }
        for (int mode = 0; mode < 4; mode++) {
            x.begin(0, 0, 0, 0, mode);
            EDGE.refused(x, "the other does not", () -> x.stop(1));
            DUE.is("stop(0)", x.stop(0), true);
            EDGE.line(x, 0, 0, 0, 5, 0);
            DUE.is("BROKEN", x.count(6), mode + 1);
            DUE.is("IDLE", x.look(9), 0);
            DUE.is("none BUSY", x.look(6), 0);
            EDGE.reader(x, 0, 9, 0, 0, 0, 0, 0, 0);
            EDGE.refused(x, "stop(0) again", () -> x.stop(0));
        }
        DUE.is("none OVER", x.count(5), 0);
        DUE.is("none MISSED", x.count(12), 0);
        x.begin(0, 0, 0, 0, Edge.TREE);
        x.tick(40);
        EDGE.refused(x, "it is OVER", () -> x.stop(0));
    }

    private static void wouldHavePromise() {
        DUE.part("promise 23: by a READER (ON or not, IDLE or not; BUSY ones aside); NONE if one can't be");
        TagReaders x = Edge.with(0, 1, 2, 3);
        DUE.is("reached by none", x.wouldHave(0, 0, 0, 0), 0);
        for (int tag = 0; tag < 3; tag++) {
            x.move(tag, 9);
        }
        DUE.is("not ON", x.wouldHave(0, 0, 0, 0), 3);
        x.power(0, true);
        x.power(3, true);
        x.begin(3, 1, 1, 0, Edge.TREE);
        DUE.is("not IDLE", x.wouldHave(3, 0, 0, 0), 3);
        x.stop(3);
        x.select(0, 4, 0, 14, 1, 1);
        x.begin(0, 0, 0, 1, Edge.TREE);
        DUE.is("2 and 3 are BUSY", x.wouldHave(3, 0, 0, 0), 1);
        DUE.is("for their own READER, too", x.wouldHave(0, 0, 0, 0), 1);
        int[] most = {3, 1, 2};
        for (int place = 0; place < 3; place++) {
            for (int v : new int[] {-1, most[place] + 1, LEAST, MOST}) {
                int[] a = new int[3];
                a[place] = v;
                String of = "(0, " + a[0] + ", " + a[1] + ", " + a[2] + ")";
                EDGE.refused(x, "wouldHave" + of, () -> x.wouldHave(0, a[0], a[1], a[2]), NONE);
                EDGE.refused(x, "queries" + of, () -> x.queries(0, a[0], a[1], a[2]), NONE);
            }
        }
        int[] before = Told.by(x);
        x.wouldHave(3, 0, 0, 0);
        x.queries(3, 0, 0, 0);
        DUE.is("it is not begun", java.util.Arrays.equals(before, Told.by(x)), true);
    }

    private static void queriesPromise() {
        DUE.part("promise 24: QUERIES of these TAGS");
        TagReaders x = Edge.with(2, 0x0000, 0x8000, 0xC000, 0xE000);
        DUE.is("none: 1", x.queries(0, 0, 0, 0), 1);
        x.move(0, 3);
        DUE.is("one: 1", x.queries(0, 0, 0, 0), 1);
        x.move(1, 3);
        DUE.is("0.., 1..: 3", x.queries(0, 0, 0, 0), 3);
        x.move(2, 3);
        DUE.is("0.., 10.., 11..: 5", x.queries(0, 0, 0, 0), 5);
        x.move(3, 3);
        DUE.is("0.., 10.., 110.., 111..: 7", x.queries(0, 0, 0, 0), 7);
        x.begin(1, 0, 0, 0, Edge.TREE);
        DUE.is("all BUSY: 1", x.queries(0, 0, 0, 0), 1);
    }
}
