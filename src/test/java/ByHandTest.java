/** What is told and done by hand: promises 1 to 12, 14, 15, 33, 35, 39 to 41. */
public final class ByHandTest {
    private static final Due DUE = new Due();
    private static final int NONE = -1;
    private static final int A_LOT = Integer.MAX_VALUE;

    public static void main(String[] args) {
        newObject();
        set();
        state();
        tune();
        tag();
        gone();
        move();
        power();
        selectMatches();
        selectWays();
        selectCannot();
        selectAgainCountsAnew();
        put();
        begin();
        stop();
        bits();
        fading();
        fadesIn();
        open();
        image();
        look();
        DUE.end();
    }

    /** A TAG's MEMORY: ID above, the other bits below. */
    private static int memory(int id, int rest) {
        return id << 16 | rest;
    }

    private static TagReaders withReaders(int on) {
        TagReaders x = new TagReaders();
        for (int i = 0; i < 4; i++) {
            if ((on >> i & 1) == 1) {
                x.power(i, true);
            }
        }
        return x;
    }

    private static void newObject() {
        DUE.part("promise 1");
        TagReaders x = new TagReaders();
        DUE.is("NONE", TagReaders.NONE, -1);
        for (int i = 0; i < 24; i++) {
            DUE.is("tagOf(" + i + ", 0)", x.tagOf(i, 0), NONE - 1);
        }
        int[] first = {0, 0, 32, 2, 0, 0, 0, 0, 0, 0, 0, 0, 0, 0, 0, 0, 0, 0, 1, 0, 1};
        for (int i = 0; i < 4; i++) {
            for (int what = 0; what < first.length; what++) {
                DUE.is("reader(" + i + ", " + what + ")", x.reader(i, what), first[what]);
            }
            DUE.is("learnt length", x.learnt(i, 0, 0), 0);
            DUE.is("learnt empty", x.learnt(i, 0, 2), 0);
        }
        DUE.is("look(2)", x.look(2), 20);
        DUE.is("look(3)", x.look(3), 40);
        DUE.is("look(8)", x.look(8), 0);
        for (int what = 0; what < 14; what++) {
            DUE.is("count(" + what + ")", x.count(what), 0);
        }
    }

    private static void set() {
        DUE.part("promise 2");
        TagReaders x = new TagReaders();
        DUE.is("set(0, 1)", x.set(0, 1), true);
        DUE.is("look(2)", x.look(2), 1);
        DUE.is("set(0, 200)", x.set(0, 200), true);
        DUE.is("set(0, 201)", x.set(0, 201), false);
        DUE.is("set(0, 0)", x.set(0, 0), false);
        DUE.is("look(2)", x.look(2), 200);
        DUE.is("look(3)", x.look(3), 40);
        DUE.is("set(1, 1)", x.set(1, 1), true);
        DUE.is("set(1, 400)", x.set(1, 400), true);
        DUE.is("set(1, 401)", x.set(1, 401), false);
        DUE.is("set(1, -5)", x.set(1, -5), false);
        DUE.is("look(3)", x.look(3), 400);
        DUE.is("look(2)", x.look(2), 200);
        DUE.is("set(2, 5)", x.set(2, 5), false);
        DUE.is("set(-1, 5)", x.set(-1, 5), false);
    }

    private static void state() {
        DUE.part("promise 3");
        TagReaders x = new TagReaders();
        DUE.is("state(7)", x.state(7), 0);
        DUE.is("state(-2147483648)", x.state(Integer.MIN_VALUE), 7);
        DUE.is("look(1)", x.look(1), Integer.MIN_VALUE);
        DUE.is("state(0)", x.state(0), Integer.MIN_VALUE);
    }

    private static void tune() {
        DUE.part("promise 4");
        TagReaders x = new TagReaders();
        int[][] ranges = {{2, 0, 64}, {3, 1, 8}, {17, 0, 3}};
        for (int what = 0; what < 3; what++) {
            int least = ranges[what][1];
            int most = ranges[what][2];
            DUE.is("tune least", x.tune(3, what, least), true);
            DUE.is("is least", x.reader(3, ranges[what][0]), least);
            DUE.is("tune most", x.tune(3, what, most), true);
            DUE.is("tune below", x.tune(3, what, least - 1), false);
            DUE.is("tune above", x.tune(3, what, most + 1), false);
            DUE.is("is most", x.reader(3, ranges[what][0]), most);
        }
        DUE.is("another's QF", x.reader(2, 2), 32);
        DUE.is("tune(0, 3, 1)", x.tune(0, 3, 1), false);
        DUE.is("tune(0, -1, 1)", x.tune(0, -1, 1), false);
        DUE.is("tune(4, 0, 1)", x.tune(4, 0, 1), false);
        DUE.is("tune(-1, 0, 1)", x.tune(-1, 0, 1), false);

        TagReaders y = withReaders(1);
        y.begin(0, 0, 0, 0, 0);
        DUE.is("tune while it TAKES STOCK", y.tune(0, 0, 10), true);
        DUE.is("QF at once", y.reader(0, 2), 10);
        DUE.is("q stays", y.reader(0, 8), 4);
        y.tick(1);
        DUE.is("QF behind an EMPTY SLOT", y.reader(0, 2), 8);
        DUE.is("q goes by it", y.reader(0, 8), 1);
        DUE.is("a new FRAME", y.reader(0, 15), 2);
    }

    private static void tag() {
        DUE.part("promise 5");
        TagReaders x = withReaders(2);
        DUE.is("tag(0, ..)", x.tag(0, memory(0xABCD, 0x1234), 3), true);
        DUE.is("there already", x.tag(0, memory(1, 0), 3), false);
        DUE.is("ID of another", x.tag(1, memory(0xABCD, 0), 3), false);
        DUE.is("another ID", x.tag(1, memory(0xABCC, 0x1234), 1), true);
        DUE.is("tag(23, ..)", x.tag(23, 0, 15), true);
        DUE.is("tag(24, ..)", x.tag(24, memory(9, 0), 15), false);
        DUE.is("tag(-1, ..)", x.tag(-1, memory(9, 0), 15), false);
        DUE.is("REACH 16", x.tag(2, memory(9, 0), 16), false);
        DUE.is("REACH -1", x.tag(2, memory(9, 0), -1), false);
        DUE.is("REACH 0", x.tag(2, memory(9, 0), 0), true);
        DUE.is("TAGS", x.look(4), 4);
        int[] powered = {0, 0, 0, 0, 0, 1, NONE, NONE, 3, 0, NONE, NONE, NONE, 0xABCD};
        int[] dark = {0, 0, 0, 0, 0, 0, NONE, NONE, 1, 0, NONE, NONE, 0, 0xABCC};
        for (int what = 0; what < 14; what++) {
            DUE.is("tagOf(0, " + what + ")", x.tagOf(0, what), powered[what]);
            DUE.is("tagOf(1, " + what + ")", x.tagOf(1, what), dark[what]);
        }
        DUE.is("tagOf(0, 14)", x.tagOf(0, 14), NONE - 1);
        DUE.is("tagOf(0, -1)", x.tagOf(0, -1), NONE - 1);
        DUE.is("tagOf(3, 0)", x.tagOf(3, 0), NONE - 1);
        DUE.is("tagOf(24, 0)", x.tagOf(24, 0), NONE - 1);
        DUE.is("tagOf(-1, 0)", x.tagOf(-1, 0), NONE - 1);
    }

    private static void gone() {
        DUE.part("promise 6");
        TagReaders x = withReaders(1);
        x.tag(5, memory(7, 0), 1);
        x.select(0, 2, 5, 0, 0, 0);
        x.select(0, 4, 1, 0, 0, 0);
        x.begin(0, 0, 0, 0, 1);
        x.tick(1);
        DUE.is("READ", x.tagOf(5, 9), 1);
        x.begin(0, 0, 1, 0, 1);
        DUE.is("gone(5)", x.gone(5), true);
        DUE.is("gone(5) again", x.gone(5), false);
        DUE.is("gone(24)", x.gone(24), false);
        DUE.is("gone(-1)", x.gone(-1), false);
        DUE.is("there", x.look(4), 0);
        DUE.is("BUSY", x.look(6), 0);
        DUE.is("not LOST", x.count(7), 0);
        DUE.is("of it", x.reader(0, 10), 0);
        DUE.is("comes with the ID that went", x.tag(6, memory(7, 0), 1), true);
        DUE.is("and goes", x.gone(6), true);
        DUE.is("comes again", x.tag(5, memory(7, 0), 1), true);
        int[] anew = {0, 0, 0, 0, 0, 1, NONE, NONE, 1, 0, NONE};
        for (int what = 0; what < anew.length; what++) {
            DUE.is("comes anew, " + what, x.tagOf(5, what), anew[what]);
        }
        x.tick(1);
        DUE.is("who went ANSWERS no more", x.log(1, 2), 1);
        x.tag(7, memory(8, 0), 0);
        x.tick(3);
        DUE.is("without POWER for", x.tagOf(7, 12), 3);
        x.gone(7);
        x.tag(7, memory(8, 0), 0);
        DUE.is("anew", x.tagOf(7, 12), 0);
    }

    private static void move() {
        DUE.part("promise 7");
        TagReaders x = withReaders(3);
        x.tag(0, 0, 3);
        x.tag(1, memory(1, 0), 1);
        x.select(0, 0, 5, 0, 0, 0);
        DUE.is("begin", x.begin(0, 0, 1, 0, 1), 2);
        DUE.is("moved, still reached", x.move(0, 1), true);
        DUE.is("BUSY yet", x.tagOf(0, 6), 0);
        DUE.is("moved away", x.move(0, 2), true);
        DUE.is("LOST", x.tagOf(0, 6), NONE);
        DUE.is("count(7)", x.count(7), 1);
        DUE.is("has POWER", x.tagOf(0, 5), 1);
        DUE.is("B yet", x.tagOf(0, 0), 1);
        DUE.is("back is not BUSY", x.move(0, 3), true);
        DUE.is("not of it", x.reader(0, 10), 1);
        x.tick(2);
        DUE.is("out of POWER", x.move(0, 12), true);
        DUE.is("FADES at once", x.tagOf(0, 0), 0);
        DUE.is("count(9)", x.count(9), 1);
        DUE.is("without POWER for", x.tagOf(0, 12), 0);
        x.tick(3);
        DUE.is("moved without POWER", x.move(0, 0), true);
        DUE.is("without POWER for", x.tagOf(0, 12), 3);
        DUE.is("move(0, 16)", x.move(0, 16), false);
        DUE.is("move(0, -1)", x.move(0, -1), false);
        DUE.is("REACH", x.tagOf(0, 8), 0);
        DUE.is("move(2, 1)", x.move(2, 1), false);
        DUE.is("move(24, 1)", x.move(24, 1), false);
        DUE.is("move(-1, 1)", x.move(-1, 1), false);
    }

    private static void power() {
        DUE.part("promise 8");
        TagReaders x = new TagReaders();
        x.tag(0, 0, 3);
        DUE.is("on", x.power(0, true), true);
        DUE.is("on again", x.power(0, true), false);
        DUE.is("1 on", x.power(1, true), true);
        DUE.is("power(4, true)", x.power(4, true), false);
        DUE.is("power(-1, true)", x.power(-1, true), false);
        DUE.is("look(8)", x.look(8), 3);
        x.select(0, 0, 5, 0, 0, 0);
        x.begin(0, 0, 1, 0, 1);
        DUE.is("off", x.power(0, false), true);
        DUE.is("BROKEN", x.log(0, 2), 5);
        DUE.is("count(6)", x.count(6), 1);
        DUE.is("IDLE", x.reader(0, 1), 0);
        DUE.is("not BUSY", x.tagOf(0, 6), NONE);
        DUE.is("POWER by the other", x.tagOf(0, 5), 1);
        DUE.is("B yet", x.tagOf(0, 0), 1);
        DUE.is("off again", x.power(0, false), false);
        DUE.is("no more BROKEN", x.count(6), 1);
        x.tick(4);
        DUE.is("the other off", x.power(1, false), true);
        DUE.is("no POWER", x.tagOf(0, 5), 0);
        DUE.is("for", x.tagOf(0, 12), 0);
        DUE.is("FADED at once", x.tagOf(0, 0), 0);
        x.tick(2);
        DUE.is("for", x.tagOf(0, 12), 2);
        x.power(1, true);
        DUE.is("with POWER", x.tagOf(0, 12), NONE);
    }

    private static void selectMatches() {
        DUE.part("promise 9, spans");
        TagReaders x = withReaders(3);
        x.tag(0, memory(0x8001, 0x00FF), 1);
        x.tag(1, memory(0x8002, 0x000F), 1);
        x.tag(2, memory(0x0003, 0xFFFF), 2);
        DUE.is("n 0 is all it reaches", x.select(0, 4, 0, 31, 0, 77), 2);
        DUE.is("not reached", x.tagOf(2, 4), 0);
        DUE.is("first bit", x.select(0, 4, 0, 0, 1, 1), 2);
        DUE.is("lowest bit of the MASK alone", x.select(0, 4, 0, 0, 1, -2), 0);
        DUE.is("bits 14, 15 as 01", x.select(0, 4, 0, 14, 2, 1), 1);
        DUE.is("0 did the first", x.tagOf(0, 4), 1);
        DUE.is("1 did the second", x.tagOf(1, 4), 0);
        DUE.is("all 32", x.select(0, 4, 0, 0, 32, memory(0x8002, 0x000F)), 1);
        DUE.is("1 did the first", x.tagOf(1, 4), 1);
        DUE.is("31 bits of 1", x.select(0, 4, 0, 1, 31, memory(0x0002, 0x000F)), 1);
        DUE.is("bit 31", x.select(0, 4, 0, 31, 1, 1), 2);
        DUE.is("bits 16 .. 27", x.select(0, 4, 0, 16, 12, 0), 1);
        DUE.is("log what", x.log(0, 2), 6);
        DUE.is("log number", x.log(0, 3), 1);
        DUE.is("log READER", x.log(0, 1), 0);
        DUE.is("SELECTS", x.count(10), 8);
        x.begin(1, 0, 0, 0, 1);
        x.move(2, 3);
        DUE.is("BUSY ones aside", x.select(0, 4, 1, 0, 0, 0), 2);
        DUE.is("BUSY", x.tagOf(2, 4), 0);
    }

    private static void selectWays() {
        DUE.part("promise 9, ways");
        // By the WAY: what TAG 0 (the first) and TAG 1 (the second) have then, having had A, SELECTED 0; and B, 1.
        int[][] firstFromA = {{0, 1}, {0, 1}, {0, 0}, {1, 1}, {1, 0}, {1, 0}, {0, 0}, {0, 0}};
        int[][] firstFromB = {{0, 1}, {0, 1}, {1, 1}, {0, 0}, {1, 0}, {1, 0}, {1, 1}, {1, 1}};
        int[][] otherFromA = {{1, 0}, {0, 0}, {1, 0}, {0, 0}, {0, 1}, {0, 0}, {0, 1}, {1, 1}};
        int[][] otherFromB = {{1, 0}, {1, 1}, {1, 0}, {1, 1}, {0, 1}, {1, 1}, {0, 1}, {0, 0}};
        for (int flag = 0; flag < 5; flag++) {
            for (int way = 0; way < 8; way++) {
                int kind = flag == 4 ? 1 : 0;
                TagReaders x = withReaders(1);
                x.tag(0, memory(0xFFFF, 0), 1);
                x.tag(1, memory(0, 0), 1);
                DUE.is("how many, " + way, x.select(0, flag, way, 0, 1, 1), 1);
                DUE.is("first from A, " + way + " of " + flag, x.tagOf(0, flag), firstFromA[way][kind]);
                DUE.is("second from A, " + way + " of " + flag, x.tagOf(1, flag), otherFromA[way][kind]);
                x.select(0, flag, flag == 4 ? 1 : 5, 0, 0, 0);
                x.select(0, flag, way, 0, 1, 1);
                DUE.is("first from B, " + way + " of " + flag, x.tagOf(0, flag), firstFromB[way][kind]);
                DUE.is("second from B, " + way + " of " + flag, x.tagOf(1, flag), otherFromB[way][kind]);
                for (int other = 0; other < 5; other++) {
                    DUE.is("no other FLAG", other == flag ? 0 : x.tagOf(0, other) + x.tagOf(1, other), 0);
                }
            }
        }
    }

    private static void selectCannot() {
        DUE.part("promise 9, cannot");
        TagReaders x = withReaders(3);
        x.tag(0, 0, 1);
        x.begin(1, 0, 0, 0, 0);
        int[][] wrong = {{2, 0, 0, 0, 0}, {1, 0, 0, 0, 0}, {4, 0, 0, 0, 0}, {-1, 0, 0, 0, 0}, {0, 5, 0, 0, 0},
            {0, -1, 0, 0, 0}, {0, 0, 8, 0, 0}, {0, 0, -1, 0, 0}, {0, 0, 0, 32, 0}, {0, 0, 0, -1, 1}, {0, 0, 0, 0, 33},
            {0, 0, 0, 1, 32}, {0, 0, 0, 31, 2}, {0, 0, 0, 0, -1}, {0, 0, 0, A_LOT, A_LOT}, {0, 0, 0, 5, A_LOT}};
        for (int[] a : wrong) {
            DUE.is("select(" + a[0] + ", ..)", x.select(a[0], a[1], a[2], a[3], a[4], 0), NONE);
        }
        DUE.is("SELECTS", x.count(10), 0);
        DUE.is("log", x.look(10), 1);
    }

    private static void selectAgainCountsAnew() {
        DUE.part("session 1, again");
        TagReaders x = withReaders(1);
        x.tag(0, 0, 1);
        x.set(0, 10);
        x.select(0, 1, 5, 0, 0, 0);
        x.tick(6);
        DUE.is("B for", x.tagOf(0, 11), 6);
        x.select(0, 1, 5, 0, 0, 0);
        DUE.is("from then on", x.tagOf(0, 11), 0);
        DUE.is("fades in", x.fadesIn(0, 1), 10);
        x.tick(9);
        DUE.is("B yet", x.tagOf(0, 1), 1);
        x.tick(1);
        DUE.is("A", x.tagOf(0, 1), 0);
        DUE.is("A: NONE", x.tagOf(0, 11), NONE);
        x.select(0, 1, 5, 0, 0, 0);
        x.tick(3);
        x.select(0, 2, 5, 0, 0, 0);
        x.select(0, 4, 1, 0, 0, 0);
        DUE.is("another FLAG changes nothing of it", x.tagOf(0, 11), 3);
        x.select(0, 1, 3, 0, 0, 0);
        x.select(0, 1, 3, 0, 0, 0);
        DUE.is("turned twice: from then on", x.tagOf(0, 11), 0);
    }

    private static void put() {
        DUE.part("promise 10");
        TagReaders x = withReaders(3);
        x.tag(0, memory(1, 0xFFFF), 3);
        DUE.is("never READ", x.put(0, 0, 16, 4, 0), false);
        x.begin(0, 0, 0, 0, 1);
        x.tick(1);
        DUE.is("READ by 0", x.tagOf(0, 10), 0);
        DUE.is("put(0, 0, 16, 4, 5)", x.put(0, 0, 16, 4, 5), true);
        DUE.is("bits", x.bits(0, 16, 16), 0x5FFF);
        DUE.is("the lowest bits of v", x.put(0, 0, 28, 4, 0x7F2), true);
        DUE.is("bits", x.bits(0, 16, 16), 0x5FF2);
        DUE.is("all 16", x.put(0, 0, 16, 16, 0xA00A), true);
        DUE.is("bits", x.bits(0, 0, 31), memory(1, 0xA00A) >>> 1);
        DUE.is("the last bit", x.put(0, 0, 31, 1, 1), true);
        DUE.is("bits", x.bits(0, 16, 16), 0xA00B);
        DUE.is("p 15", x.put(0, 0, 15, 1, 0), false);
        DUE.is("p 32", x.put(0, 0, 32, 1, 0), false);
        DUE.is("too long", x.put(0, 0, 31, 2, 0), false);
        DUE.is("n 0", x.put(0, 0, 16, 0, 0), false);
        DUE.is("n -1", x.put(0, 0, 16, -1, 0), false);
        DUE.is("READ last by another", x.put(1, 0, 16, 1, 0), false);
        DUE.is("no TAG", x.put(0, 1, 16, 1, 0), false);
        DUE.is("no READER", x.put(4, 0, 16, 1, 0), false);
        DUE.is("no READER", x.put(-1, 0, 16, 1, 0), false);
        DUE.is("PUTS", x.count(13), 4);
        x.begin(1, 1, 0, 0, 0);
        DUE.is("BUSY", x.put(0, 0, 16, 1, 0), false);
        x.stop(1);
        x.begin(0, 3, 1, 0, 0);
        DUE.is("not IDLE", x.put(0, 0, 16, 1, 0), false);
        x.stop(0);
        DUE.is("IDLE again", x.put(0, 0, 16, 1, 0), true);
        x.move(0, 2);
        DUE.is("not reached", x.put(0, 0, 16, 1, 1), false);
        x.move(0, 3);
        x.power(0, false);
        DUE.is("not ON", x.put(0, 0, 16, 1, 1), false);
        DUE.is("bits stay", x.bits(0, 16, 16), 0x200B);
    }

    private static void begin() {
        DUE.part("promise 11");
        TagReaders x = withReaders(7);
        for (int i = 0; i < 6; i++) {
            x.tag(i, memory(i, 0), i == 5 ? 2 : 3);
        }
        x.select(0, 4, 0, 15, 1, 1);
        x.select(0, 2, 4, 14, 1, 1);
        int[][] wrong = {{3, 0, 0, 0, 0}, {4, 0, 0, 0, 0}, {-1, 0, 0, 0, 0}, {0, 4, 0, 0, 0}, {0, -1, 0, 0, 0},
            {0, 0, 2, 0, 0}, {0, 0, -1, 0, 0}, {0, 0, 0, 3, 0}, {0, 0, 0, -1, 0}, {0, 0, 0, 0, 4}, {0, 0, 0, 0, -1}};
        for (int[] a : wrong) {
            DUE.is("begin(" + a[0] + ", ..)", x.begin(a[0], a[1], a[2], a[3], a[4]), NONE);
        }
        DUE.is("nothing began", x.look(9), 0);
        DUE.is("SELECTED ones: 1, 3", x.begin(0, 0, 0, 1, 1), 2);
        DUE.is("1 is BUSY", x.tagOf(1, 6), 0);
        DUE.is("0 is not", x.tagOf(0, 6), NONE);
        DUE.is("not IDLE", x.begin(0, 0, 0, 0, 1), NONE);
        DUE.is("of SESSION 2 B, not BUSY: 2", x.begin(1, 2, 1, 0, 3), 1);
        DUE.is("2 is BUSY with 1", x.tagOf(2, 6), 1);
        x.stop(0);
        DUE.is("not SELECTED ones: 0, 4", x.begin(0, 0, 0, 2, 0), 2);
        int[] latest = {1, 1, 32, 2, 0, 0, 2, 0, 4, 0, 2, 0, 0, 0, 0, 1, 0};
        for (int what = 0; what < latest.length; what++) {
            DUE.is("reader(0, " + what + ")", x.reader(0, what), latest[what]);
        }
        int state = 0;
        DUE.is("DRAW of 0", x.tagOf(0, 7), Draws.of(state, 16));
        state = Draws.next(state);
        DUE.is("DRAW of 4", x.tagOf(4, 7), Draws.of(state, 16));
        DUE.is("STATE", x.look(1), Draws.next(state));
        DUE.is("none reached", x.begin(2, 3, 1, 1, 2), 0);
        DUE.is("takes stock all the same", x.reader(2, 1), 1);
        DUE.is("q of FRAMES", x.reader(2, 8), 2);
        DUE.is("log", x.log(0, 2), 0);
        DUE.is("log READER", x.log(0, 1), 2);
        DUE.is("log number", x.log(1, 3), 2);
        DUE.is("a TREE's row", x.reader(1, 11), 1);
        DUE.is("a TREE has no FRAMES", x.reader(1, 15), 0);
        DUE.is("FRAMES begun", x.count(4), 2);
        for (int qf = 0; qf <= 64; qf++) {
            TagReaders y = withReaders(1);
            y.tune(0, 0, qf);
            y.begin(0, 0, 0, 0, 0);
            DUE.is("q by QF " + qf, y.reader(0, 8), (qf + 4) / 8);
        }
    }

    private static void stop() {
        DUE.part("promise 12");
        TagReaders x = withReaders(1);
        x.tag(0, memory(0, 0), 1);
        x.tag(1, memory(0x8000, 0), 1);
        DUE.is("IDLE", x.stop(0), false);
        DUE.is("stop(4)", x.stop(4), false);
        DUE.is("stop(-1)", x.stop(-1), false);
        x.begin(0, 0, 0, 0, 1);
        x.tick(2);
        DUE.is("stop(0)", x.stop(0), true);
        DUE.is("stop(0) again", x.stop(0), false);
        DUE.is("log", x.log(0, 2), 5);
        DUE.is("how many it READ", x.log(0, 3), 1);
        DUE.is("not BUSY", x.tagOf(1, 6), NONE);
        DUE.is("row", x.reader(0, 11), 0);
        DUE.is("prefix", x.prefix(0, 0, 0), NONE);
        DUE.is("READ by the latest", x.reader(0, 12), 1);
        DUE.is("not MISSED", x.reader(0, 16), 0);
        DUE.is("BROKEN", x.count(6), 1);
        DUE.is("not OVER", x.count(5), 0);
        DUE.is("nothing LEARNT", x.reader(0, 18), 1);
        x.begin(0, 2, 0, 0, 0);
        x.tick(1);
        x.stop(0);
        DUE.is("no SLOT any more", x.tagOf(0, 7), NONE);
        DUE.is("no SLOTS gone, IDLE", x.reader(0, 9), 0);
        DUE.is("q of the latest", x.reader(0, 8), 4);
    }

    private static void bits() {
        DUE.part("promise 15");
        TagReaders x = new TagReaders();
        x.tag(3, 0x80000005, 0);
        DUE.is("first", x.bits(3, 0, 1), 1);
        DUE.is("last three", x.bits(3, 29, 3), 5);
        DUE.is("31 first", x.bits(3, 0, 31), 0x40000002);
        DUE.is("31 last", x.bits(3, 1, 31), 5);
        int[][] wrong = {{3, 0, 32}, {3, 0, 0}, {3, 2, 31}, {3, 32, 1}, {3, -1, 1}, {3, 0, -1}, {4, 0, 1}, {24, 0, 1},
            {-1, 0, 1}, {3, A_LOT, 31}, {3, 31, A_LOT}};
        for (int[] a : wrong) {
            DUE.is("bits(" + a[0] + ", " + a[1] + ", " + a[2] + ")", x.bits(a[0], a[1], a[2]), NONE);
        }
    }

    private static void fading() {
        DUE.part("fading");
        TagReaders x = withReaders(1);
        x.tag(0, 0, 1);
        x.set(0, 3);
        x.set(1, 5);
        for (int flag = 0; flag < 4; flag++) {
            x.select(0, flag, 5, 0, 0, 0);
        }
        x.select(0, 4, 1, 0, 0, 0);
        x.tick(2);
        DUE.is("session 1 yet B", x.tagOf(0, 1), 1);
        DUE.is("B for", x.tagOf(0, 11), 2);
        x.tick(1);
        DUE.is("session 1 is A with POWER", x.tagOf(0, 1), 0);
        DUE.is("FADED", x.count(9), 1);
        x.tick(20);
        DUE.is("the others stay with POWER", x.tagOf(0, 0) + x.tagOf(0, 2) + x.tagOf(0, 3) + x.tagOf(0, 4), 4);
        x.select(0, 1, 5, 0, 0, 0);
        x.power(0, false);
        DUE.is("session 0 at once", x.tagOf(0, 0), 0);
        DUE.is("FADED", x.count(9), 2);
        x.tick(3);
        DUE.is("session 1 without POWER", x.tagOf(0, 1), 0);
        x.tick(1);
        DUE.is("the others yet", x.tagOf(0, 2) + x.tagOf(0, 3) + x.tagOf(0, 4), 3);
        x.power(0, true);
        x.power(0, false);
        x.tick(4);
        DUE.is("from then on", x.tagOf(0, 2) + x.tagOf(0, 3) + x.tagOf(0, 4), 3);
        x.tick(1);
        DUE.is("all FADED", x.tagOf(0, 2) + x.tagOf(0, 3) + x.tagOf(0, 4), 0);
        DUE.is("FADED, SELECTED too", x.count(9), 6);
    }

    private static void fadesIn() {
        DUE.part("promise 33");
        TagReaders x = withReaders(1);
        x.tag(0, 0, 1);
        for (int flag = 0; flag < 5; flag++) {
            DUE.is("A", x.fadesIn(0, flag), 0);
            x.select(0, flag, flag == 4 ? 1 : 5, 0, 0, 0);
        }
        int[] powered = {NONE, 20, NONE, NONE, NONE};
        for (int flag = 0; flag < 5; flag++) {
            DUE.is("with POWER, " + flag, x.fadesIn(0, flag), powered[flag]);
        }
        x.tick(5);
        x.power(0, false);
        x.tick(4);
        int[] dark = {0, 11, 36, 36, 36};
        for (int flag = 0; flag < 5; flag++) {
            DUE.is("without, " + flag, x.fadesIn(0, flag), dark[flag]);
        }
        x.set(0, 3);
        x.set(1, 4);
        DUE.is("behind time already", x.fadesIn(0, 1), 1);
        DUE.is("just in time", x.fadesIn(0, 3), 1);
        x.tick(1);
        DUE.is("FADED", x.fadesIn(0, 1), 0);
        DUE.is("FADED", x.tagOf(0, 3), 0);
        DUE.is("flag 5", x.fadesIn(0, 5), NONE);
        DUE.is("flag -1", x.fadesIn(0, -1), NONE);
        DUE.is("no TAG", x.fadesIn(1, 0), NONE);
        DUE.is("no TAG", x.fadesIn(24, 0), NONE);
    }

    private static void open() {
        DUE.part("promise 35");
        TagReaders x = withReaders(1);
        x.tag(0, memory(0, 0), 1);
        x.tag(4, memory(0x8000, 0), 3);
        x.tag(23, memory(0x8001, 0), 2);
        x.select(0, 3, 5, 0, 1, 1);
        DUE.is("open(3, 0)", x.open(3, 0), 1);
        DUE.is("open(3, 1)", x.open(3, 1), 16);
        DUE.is("open(0, 0)", x.open(0, 0), 17);
        x.power(1, true);
        DUE.is("open(0, 0)", x.open(0, 0), 17 + (1 << 23));
        int[][] wrong = {{4, 0}, {-1, 0}, {0, 2}, {0, -1}};
        for (int[] a : wrong) {
            DUE.is("open(" + a[0] + ", " + a[1] + ")", x.open(a[0], a[1]), NONE);
        }
    }

    private static void image() {
        DUE.part("promise 40");
        TagReaders x = withReaders(1);
        DUE.is("none yet", x.image(false), false);
        for (int i = 0; i < 6; i++) {
            x.tag(i, memory(i << 13, i), i == 5 ? 2 : 1);
        }
        x.state(99);
        x.tune(0, 2, 3);
        x.select(0, 1, 5, 0, 0, 0);
        x.select(0, 4, 1, 0, 1, 0);
        x.begin(0, 3, 0, 1, 1);
        x.tick(40);
        x.begin(0, 2, 0, 1, 1);
        x.power(1, true);
        x.begin(1, 0, 0, 0, 2);
        x.tick(4);
        x.stop(1);
        x.begin(1, 3, 0, 0, 2);
        x.tick(1);
        DUE.is("taken", x.image(true), true);
        int[] before = told(x);
        for (int round = 0; round < 2; round++) {
            changeAll(x, round);
            DUE.is("back, " + round, x.image(false), true);
            int[] after = told(x);
            for (int i = 0; i < before.length; i++) {
                DUE.is("told " + i, after[i], before[i]);
            }
        }
        int lasts = x.lasts(0);
        x.tick(lasts);
        DUE.is("all goes on", x.reader(0, 12), 4);
        int learnt = x.reader(0, 18);
        int second = x.learnt(0, 1, 0);
        x.image(true);
        x.begin(0, 1, 1, 0, 1);
        x.tick(40);
        x.image(false);
        DUE.is("a later IMAGE", x.reader(0, 18), learnt);
        DUE.is("a later IMAGE", x.learnt(0, 1, 0), second);
    }

    private static void changeAll(TagReaders x, int round) {
        x.stop(0);
        x.stop(1);
        x.select(0, 1, 5, 0, 0, 0);
        x.tune(1, 2, 3);
        x.begin(1, 1, 1, 0, 0);
        x.begin(0, 1, 1, 2, 3);
        x.tick(40);
        x.set(0, 5 + round);
        x.set(1, 6);
        x.gone(2);
        x.tag(9, memory(0x7777, 0), 3);
        x.tag(2, memory(0x1111, 0), 0);
        x.move(3, 2);
        x.begin(0, 1, 0, 2, 0);
        x.begin(1, 2, 0, 0, 1);
        x.tick(7);
        x.tune(0, 2, 1);
        x.tune(0, 1, 1);
        x.power(0, false);
        x.power(2, true);
        for (int i = 0; i < 60; i++) {
            x.select(2, 0, 1, 0, 0, 0);
        }
    }

    private static int[] told(TagReaders x) {
        int[] all = new int[1000];
        int i = 0;
        for (int what = 0; what <= 10; what++) {
            all[i++] = x.look(what);
        }
        for (int what = 0; what <= 20; what++) {
            for (int reader = 0; reader < 3; reader++) {
                all[i++] = x.reader(reader, what);
            }
        }
        for (int what = 0; what <= 13; what++) {
            all[i++] = x.count(what);
            for (int tag = 0; tag < 10; tag++) {
                all[i++] = x.tagOf(tag, what);
            }
        }
        for (int line = 0; line < 60; line++) {
            for (int what = 0; what < 4; what++) {
                all[i++] = x.log(line, what);
            }
        }
        for (int k = 0; k < 12; k++) {
            for (int reader = 0; reader < 2; reader++) {
                all[i++] = x.prefix(reader, k, 0);
                all[i++] = x.prefix(reader, k, 1);
                all[i++] = x.learnt(reader, k, 0);
                all[i++] = x.learnt(reader, k, 1);
                all[i++] = x.learnt(reader, k, 2);
                all[i++] = x.read(reader, k);
            }
        }
        all[i++] = x.lasts(0);
        all[i] = x.lasts(1);
        return all;
    }

    private static void look() {
        DUE.part("promise 41");
        TagReaders x = withReaders(5);
        x.tag(0, memory(0, 0), 1);
        x.tag(1, memory(1, 0), 4);
        x.tag(2, memory(2, 0), 2);
        x.state(-5);
        x.set(0, 7);
        x.set(1, 8);
        x.select(0, 4, 1, 0, 0, 0);
        x.begin(2, 0, 0, 0, 1);
        int[] all = {0, -5, 7, 8, 3, 2, 1, 1, 5, 4, 2};
        for (int what = 0; what < all.length; what++) {
            DUE.is("look(" + what + ")", x.look(what), all[what]);
        }
        DUE.is("look(11)", x.look(11), NONE - 99999999);
        DUE.is("look(-1)", x.look(-1), NONE - 99999999);
    }
}
