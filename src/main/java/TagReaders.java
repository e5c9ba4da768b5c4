/** Readers that take stock of tags; what each call does and answers is told in ../shared/DOC.md. */
public final class TagReaders {
    public static final int NONE = -1;

    private static final int TAGS = 24;
    private static final int READERS = 4;
    private static final int LAST_TICK = 9999;
    private static final int MOST_TICKS_A_CALL = 40;
    private static final int MOST_TICKS_IN_THOUGHT = 500;
    private static final int MEMORY_BITS = 32;
    private static final int ID_BITS = 16;

    // The FLAGS of a TAG: 0 .. 3 are of the SESSIONS.
    private static final int SESSIONS = 4;
    private static final int SELECTED = 4;
    private static final int FLAGS = 5;

    // The MODES of TAKING STOCK.
    private static final int SLOTS = 0;
    private static final int FRAMES = 2;
    private static final int LEARNT_TREE = 3;

    // What a line of THE LOG tells.
    private static final int BEGAN = 0;
    private static final int WAS_EMPTY = 1;
    private static final int WAS_SINGLE = 2;
    private static final int WAS_CLASH = 3;
    private static final int WAS_OVER = 4;
    private static final int WAS_BROKEN = 5;
    private static final int WAS_SELECTED = 6;

    // What is counted of all READERS.
    private static final int ASKED = 0;
    private static final int EMPTIES = 1;
    private static final int SINGLES = 2;
    private static final int CLASHES = 3;
    private static final int FRAMES_BEGUN = 4;
    private static final int OVERS = 5;
    private static final int BREAKS = 6;
    private static final int LOSSES = 7;
    private static final int READ_TO_B = 8;
    private static final int FADINGS = 9;
    private static final int SELECTS = 10;
    private static final int JAMS = 11;
    private static final int MISSES = 12;
    private static final int PUTS = 13;
    private static final int COUNTS = 14;

    private final Chances chances;
    private final World now;
    private World kept;
    private World thought;

    public TagReaders() {
        chances = new Chances();
        now = new World(chances);
    }

    public boolean set(int what, int v) {
        return now.tellSpan(what, v);
    }

    public int state(int v) {
        int before = now.draws;
        now.draws = v;
        return before;
    }

    public boolean tune(int reader, int what, int v) {
        Reader one = now.readerAt(reader);
        return one != null && one.tell(what, v);
    }

    public boolean tag(int tag, int memory, int reach) {
        return now.come(tag, memory, reach);
    }

    public boolean gone(int tag) {
        Tag one = now.tagAt(tag);
        if (one == null) {
            return false;
        }
        one.leave();
        return true;
    }

    public boolean move(int tag, int reach) {
        return now.carry(tag, reach);
    }

    public boolean power(int reader, boolean on) {
        return now.turnReader(reader, on);
    }

    public int select(int reader, int flag, int way, int p, int n, int mask) {
        return now.selectBy(reader, flag, way, p, n, mask);
    }

    public boolean put(int reader, int tag, int p, int n, int v) {
        return now.putBits(reader, tag, p, n, v);
    }

    public int begin(int reader, int session, int target, int sort, int mode) {
        return Stock.start(now, reader, session, target, sort, mode);
    }

    public boolean stop(int reader) {
        return Stock.interrupt(now, reader);
    }

    public int tick(int n) {
        if (n < 1 || n > MOST_TICKS_A_CALL || now.tick + n > LAST_TICK) {
            return NONE;
        }
        for (int i = 0; i < n; i++) {
            now.pass();
        }
        return now.tick;
    }

    public int tagOf(int tag, int what) {
        Tag one = now.tagAt(tag);
        return one == null ? NONE - 1 : one.tells(what, now.tick);
    }

    public int bits(int tag, int p, int n) {
        Tag one = now.tagAt(tag);
        return one == null || n < 1 || n > 31 || !isSpan(p, n) ? NONE : one.span(p, n);
    }

    public int reader(int reader, int what) {
        Reader one = now.readerAt(reader);
        if (one == null) {
            return NONE;
        }
        return what == 10 ? Integer.bitCount(now.tagsOf(reader)) : one.tells(what);
    }

    public int prefix(int reader, int i, int what) {
        Reader one = now.readerAt(reader);
        return one == null || what < 0 || what > 1 ? NONE : one.row.tells(one.row.size - 1 - i, what);
    }

    public int learnt(int reader, int i, int what) {
        Reader one = now.readerAt(reader);
        return one == null ? NONE : one.learnt.tells(i, what);
    }

    public int jammed(int tag) {
        Tag one = now.tagAt(tag);
        if (one == null || one.busy == NONE) {
            return NONE;
        }
        return now.isJammed(one, now.readersTaking()) ? 1 : 0;
    }

    public int channels(int what) {
        return Survey.channelTold(now.tags, what);
    }

    public int cover() {
        return Survey.fewestReaders(now.tags);
    }

    public int read(int reader, int i) {
        Reader one = now.readerAt(reader);
        return one == null || i < 0 || i >= one.all.single || i >= TAGS ? NONE : one.reads[i];
    }

    public int wouldHave(int reader, int session, int target, int sort) {
        int set = now.stockOf(reader, session, target, sort);
        return set == NONE ? NONE : Integer.bitCount(set);
    }

    public int queries(int reader, int session, int target, int sort) {
        int set = now.stockOf(reader, session, target, sort);
        return set == NONE ? NONE : Survey.treeQueries(now.tags, set, 0);
    }

    public int lasts(int reader) {
        Reader one = now.readerAt(reader);
        if (one == null || !one.taking) {
            return one == null ? NONE : 0;
        }
        if (thought == null) {
            thought = new World(chances);
        }
        thought.copyFrom(now);
        int readerBit = 1 << reader;
        for (int i = 1; i <= MOST_TICKS_IN_THOUGHT; i++) {
            thought.pass();
            if ((thought.readersTaking() & readerBit) == 0) {
                return i;
            }
        }
        return NONE;
    }

    public long ways(int n, int q, int s) {
        return chances.waysOf(n, q, s);
    }

    public long hope(int n, int q, int what) {
        return chances.hopeOf(n, q, what);
    }

    public int best(int n) {
        return chances.bestFor(n);
    }

    public int guess(int e, int s, int c) {
        return chances.guessBy(e, s, c);
    }

    public int least(int what) {
        return Survey.leastTold(now.tags, what);
    }

    public int sharp(int what) {
        return Survey.sharpTold(now.tags, what);
    }

    public int values(int p, int n) {
        return n < 1 || !isSpan(p, n) ? NONE : Survey.valuesIn(now.tags, p, n);
    }

    public int fadesIn(int tag, int flag) {
        Tag one = now.tagAt(tag);
        return one == null || flag < 0 || flag >= FLAGS ? NONE : now.ticksToFade(one, flag);
    }

    public int both(int one, int other) {
        Reader first = now.readerAt(one);
        Reader second = now.readerAt(other);
        if (first == null || second == null || one == other) {
            return NONE;
        }
        return Integer.bitCount(first.readSet() & second.readSet() & now.tagsThere());
    }

    public int open(int session, int target) {
        return now.powered(session, target);
    }

    public int apart(int one, int other) {
        Tag first = now.tagAt(one);
        Tag second = now.tagAt(other);
        return first == null || second == null ? NONE : Survey.firstUnlike(first, second);
    }

    public int log(int i, int what) {
        return now.journal.tells(i, what);
    }

    // Each of the three is ruled out by how things are kept: a SINGLE is looked for among the TAGS
    // that are BUSY with the READER alone, and reading frees it; a TREE halves just those sets that
    // QUERIES halves; a TAG is freed in the same call in which its READER stops or ceases to reach it.
    public int never(int what) {
        return what < 0 || what > 2 ? NONE : 0;
    }

    public int count(int what) {
        return what < 0 || what >= COUNTS ? NONE : now.counts[what];
    }

    public boolean image(boolean taken) {
        if (taken) {
            if (kept == null) {
                kept = new World(chances);
            }
            kept.copyFrom(now);
            return true;
        }
        if (kept == null) {
            return false;
        }
        now.copyFrom(kept);
        return true;
    }

    public int look(int what) {
        return now.tells(what);
    }

    private static boolean isSpan(int p, int n) {
        return p >= 0 && p < MEMORY_BITS && n >= 0 && n <= MEMORY_BITS - p;
    }

    private static boolean isSet(int reach) {
        return reach >= 0 && reach < 1 << READERS;
    }

    private static int lowest(int number, int n) {
        return n == 0 ? 0 : number << (MEMORY_BITS - n) >>> (MEMORY_BITS - n);
    }

    private static long commonDivisor(long a, long b) {
        long big = a;
        long small = b;
        for (int i = 0; i < 200 && small != 0; i++) {
            long rest = big % small;
            big = small;
            small = rest;
        }
        return big;
    }

    /** A TAG, there or not. */
    private static final class Tag {
        boolean there;
        int memory;
        int reach;
        int flags;
        int busy = NONE;
        int slot = NONE;
        int timesRead;
        int lastReader;
        int bSince;
        int darkSince;

        void arrive(int newMemory, int newReach) {
            there = true;
            memory = newMemory;
            reach = newReach;
            flags = 0;
            timesRead = 0;
            lastReader = NONE;
            darkSince = NONE;
        }

        void leave() {
            there = false;
            release();
        }

        void release() {
            busy = NONE;
            slot = NONE;
        }

        int id() {
            return memory >>> (MEMORY_BITS - ID_BITS);
        }

        int span(int p, int n) {
            return n == 0 ? 0 : memory << p >>> (MEMORY_BITS - n);
        }

        int flag(int flag) {
            return flags >> flag & 1;
        }

        boolean isReachedBy(int reader) {
            return (reach >> reader & 1) == 1;
        }

        boolean hasPower() {
            return darkSince == NONE;
        }

        void setFlag(int flag, int v, int tick) {
            flags = v == 1 ? flags | 1 << flag : flags & ~(1 << flag);
            if (flag == 1 && v == 1) {
                bSince = tick;
            }
        }

        int tells(int what, int tick) {
            switch (what) {
                case 0:
                case 1:
                case 2:
                case 3:
                case SELECTED:
                    return flag(what);
                case 5:
                    return hasPower() ? 1 : 0;
                case 6:
                    return busy;
                case 7:
                    return slot;
                case 8:
                    return reach;
                case 9:
                    return timesRead;
                case 10:
                    return lastReader;
                case 11:
                    return flag(1) == 1 ? tick - bSince : NONE;
                case 12:
                    return hasPower() ? NONE : tick - darkSince;
                case 13:
                    return id();
                default:
                    return NONE - 1;
            }
        }

        void copyFrom(Tag o) {
            there = o.there;
            memory = o.memory;
            reach = o.reach;
            flags = o.flags;
            busy = o.busy;
            slot = o.slot;
            timesRead = o.timesRead;
            lastReader = o.lastReader;
            bSince = o.bSince;
            darkSince = o.darkSince;
        }
    }

    /** How often there was what, of a FRAME or of a whole TAKING OF STOCK. */
    private static final class Tally {
        int empty;
        int single;
        int clash;

        void clear() {
            empty = 0;
            single = 0;
            clash = 0;
        }

        void add(int answered) {
            if (answered == 0) {
                empty++;
            } else if (answered == 1) {
                single++;
            } else {
                clash++;
            }
        }

        int sum() {
            return empty + single + clash;
        }

        void copyFrom(Tally o) {
            empty = o.empty;
            single = o.single;
            clash = o.clash;
        }
    }

    /** PREFIXES, each as one number: its bits, above them how many, above these whether it was EMPTY. */
    private static final class Prefixes {
        // No more can come: 24 TAGS that were SINGLE leave 296 PREFIXES at most when the pairs of
        // EMPTY ones are made one, and 24 other TAGS clash 159 times at most on the way to their IDs.
        static final int ROOM = 512;
        static final int NO_BITS = 0;
        static final int LENGTH_AT = 16;
        static final int BITS = (1 << LENGTH_AT) - 1;
        static final int EMPTY_MARK = 1 << 24;

        final int[] items = new int[ROOM];
        int size;

        static int lengthOf(int prefix) {
            return prefix >> LENGTH_AT & 31;
        }

        static int bitsOf(int prefix) {
            return prefix & BITS;
        }

        static int longer(int prefix, int bit) {
            return lengthOf(prefix) + 1 << LENGTH_AT | bitsOf(prefix) << 1 & BITS | bit;
        }

        static boolean begins(int prefix, int id) {
            return id >> (ID_BITS - lengthOf(prefix)) == bitsOf(prefix);
        }

        void clear() {
            size = 0;
        }

        void add(int prefix) {
            if (size < ROOM) {
                items[size] = prefix;
                size++;
            }
        }

        int takeLast() {
            if (size < 1 || size > ROOM) {
                return NONE;
            }
            size--;
            return items[size];
        }

        int at(int i) {
            return i < 0 || i >= size || i >= ROOM ? NONE : items[i];
        }

        int tells(int i, int what) {
            int prefix = at(i);
            if (prefix == NONE) {
                return NONE;
            }
            switch (what) {
                case 0:
                    return lengthOf(prefix);
                case 1:
                    return bitsOf(prefix);
                case 2:
                    return (prefix & EMPTY_MARK) == 0 ? 0 : 1;
                default:
                    return NONE;
            }
        }

        // A row is kept with its first PREFIX last, so that taking it off moves nothing.
        void backwardsFrom(Prefixes o) {
            clear();
            for (int i = o.size - 1; i >= 0; i--) {
                add(o.at(i) & ~EMPTY_MARK);
            }
        }

        // Pairs are made one as soon as both are in: which pair goes first changes nothing of what is left.
        void joinedFrom(Prefixes o) {
            clear();
            for (int i = 0; i < o.size; i++) {
                add(o.at(i));
                for (int joins = 0; joins < ID_BITS && endsInEmptyPair(); joins++) {
                    int second = takeLast();
                    takeLast();
                    add(EMPTY_MARK | lengthOf(second) - 1 << LENGTH_AT | bitsOf(second) >> 1);
                }
            }
        }

        private boolean endsInEmptyPair() {
            int first = at(size - 2);
            int second = at(size - 1);
            if (first == NONE || second == NONE || lengthOf(second) == 0 || (first & EMPTY_MARK) == 0) {
                return false;
            }
            return (second & 1) == 1 && first == second - 1;
        }

        void copyFrom(Prefixes o) {
            size = o.size;
            System.arraycopy(o.items, 0, items, 0, ROOM);
        }
    }

    /** A READER with its latest TAKING OF STOCK. */
    private static final class Reader {
        static final int MOST_QF = 64;

        boolean on;
        boolean taking;
        int qf = 32;
        int step = 2;
        int channel;
        int session;
        int target;
        int sort;
        int mode;
        int q;
        int frames;
        int missed;
        final Tally all = new Tally();
        final Tally frame = new Tally();
        final int[] reads = new int[TAGS];
        final Prefixes row = new Prefixes();
        final Prefixes asked = new Prefixes();
        final Prefixes learnt = new Prefixes();

        Reader() {
            learnt.add(Prefixes.NO_BITS);
        }

        boolean isFree() {
            return on && !taking;
        }

        boolean hasSlots() {
            return mode == SLOTS || mode == FRAMES;
        }

        int qByQf() {
            return (qf + 4) / 8;
        }

        boolean tell(int what, int v) {
            if (what == 0 && v >= 0 && v <= MOST_QF) {
                qf = v;
            } else if (what == 1 && v >= 1 && v <= 8) {
                step = v;
            } else if (what == 2 && v >= 0 && v < READERS) {
                channel = v;
            } else {
                return false;
            }
            return true;
        }

        void start(int newSession, int newTarget, int newSort, int newMode) {
            taking = true;
            session = newSession;
            target = newTarget;
            sort = newSort;
            mode = newMode;
            frames = 0;
            missed = 0;
            all.clear();
            asked.clear();
        }

        void rest() {
            taking = false;
            row.clear();
            frame.clear();
        }

        void noteRead(int tag) {
            if (all.single >= 0 && all.single < TAGS) {
                reads[all.single] = tag;
            }
        }

        int readSet() {
            int set = 0;
            for (int i = 0; i < all.single && i < TAGS; i++) {
                set |= 1 << reads[i];
            }
            return set;
        }

        int share(boolean above) {
            int whole = all.sum();
            long divisor = commonDivisor(all.single, whole);
            if (whole == 0 || divisor == 0) {
                return above ? 0 : 1;
            }
            return (int) ((above ? all.single : whole) / divisor);
        }

        int tells(int what) {
            switch (what) {
                case 0:
                    return on ? 1 : 0;
                case 1:
                    return taking ? 1 : 0;
                case 2:
                    return qf;
                case 3:
                    return step;
                case 4:
                    return session;
                case 5:
                    return target;
                case 6:
                    return sort;
                case 7:
                    return mode;
                case 8:
                    return q;
                case 9:
                    return frame.sum();
                case 11:
                    return row.size;
                default:
                    return tellsLatest(what);
            }
        }

        private int tellsLatest(int what) {
            switch (what) {
                case 12:
                    return all.single;
                case 13:
                    return all.empty;
                case 14:
                    return all.clash;
                case 15:
                    return frames;
                case 16:
                    return missed;
                case 17:
                    return channel;
                case 18:
                    return learnt.size;
                case 19:
                    return share(true);
                case 20:
                    return share(false);
                default:
                    return NONE;
            }
        }

        void copyFrom(Reader o) {
            on = o.on;
            taking = o.taking;
            qf = o.qf;
            step = o.step;
            channel = o.channel;
            session = o.session;
            target = o.target;
            sort = o.sort;
            mode = o.mode;
            q = o.q;
            frames = o.frames;
            missed = o.missed;
            all.copyFrom(o.all);
            frame.copyFrom(o.frame);
            System.arraycopy(o.reads, 0, reads, 0, TAGS);
            row.copyFrom(o.row);
            asked.copyFrom(o.asked);
            learnt.copyFrom(o.learnt);
        }
    }

    /** THE LOG: the latest lines, in a ring. */
    private static final class Journal {
        static final int LINES = 60;
        static final int COLUMNS = 4;

        final int[] cells = new int[LINES * COLUMNS];
        int came;

        void add(int tick, int reader, int what, int number) {
            int at = Math.floorMod(came, LINES) * COLUMNS;
            cells[at] = tick;
            cells[at + 1] = reader;
            cells[at + 2] = what;
            cells[at + 3] = number;
            came++;
        }

        int tells(int i, int what) {
            if (i < 0 || i >= LINES || i >= came || what < 0 || what >= COLUMNS) {
                return NONE;
            }
            return cells[Math.floorMod(came - 1 - i, LINES) * COLUMNS + what];
        }

        void copyFrom(Journal o) {
            came = o.came;
            System.arraycopy(o.cells, 0, cells, 0, LINES * COLUMNS);
        }
    }

    /** All that is and was told; what is done by hand, and how FLAGS fade. */
    private static final class World {
        static final int NOTHING = 0;
        static final int YES = 1;
        static final int NO = 2;
        static final int TURN = 3;
        // By the WAYS.
        static final int[] FIRST_DO = {YES, YES, NOTHING, TURN, NO, NO, NOTHING, NOTHING};
        static final int[] OTHERS_DO = {NO, NOTHING, NO, NOTHING, YES, NOTHING, YES, TURN};

        final Chances chances;
        final Tag[] tags = new Tag[TAGS];
        final Reader[] readers = new Reader[READERS];
        final Journal journal = new Journal();
        final int[] counts = new int[COUNTS];
        int tick;
        int draws;
        int shortTicks = 20;
        int longTicks = 40;

        World(Chances shared) {
            chances = shared;
            for (int i = 0; i < TAGS; i++) {
                tags[i] = new Tag();
            }
            for (int i = 0; i < READERS; i++) {
                readers[i] = new Reader();
            }
        }

        Tag tagAt(int tag) {
            return tag < 0 || tag >= TAGS || !tags[tag].there ? null : tags[tag];
        }

        Reader readerAt(int reader) {
            return reader < 0 || reader >= READERS ? null : readers[reader];
        }

        void write(int reader, int what, int number) {
            journal.add(tick, reader, what, number);
        }

        int draw(int m) {
            draws = 1664525 * draws + 1013904223;
            return m <= 0 ? 0 : (draws >>> 8) % m;
        }

        boolean tellSpan(int what, int v) {
            if (what == 0 && v >= 1 && v <= 200) {
                shortTicks = v;
            } else if (what == 1 && v >= 1 && v <= 400) {
                longTicks = v;
            } else {
                return false;
            }
            return true;
        }

        boolean come(int number, int memory, int reach) {
            if (number < 0 || number >= TAGS || tags[number].there || !isSet(reach)) {
                return false;
            }
            int id = memory >>> (MEMORY_BITS - ID_BITS);
            for (int i = 0; i < TAGS; i++) {
                if (tags[i].there && tags[i].id() == id) {
                    return false;
                }
            }
            tags[number].arrive(memory, reach);
            settlePower(tags[number]);
            return true;
        }

        boolean carry(int number, int reach) {
            Tag tag = tagAt(number);
            if (tag == null || !isSet(reach)) {
                return false;
            }
            tag.reach = reach;
            if (tag.busy != NONE && !tag.isReachedBy(tag.busy)) {
                tag.release();
                counts[LOSSES]++;
            }
            settlePower(tag);
            return true;
        }

        boolean turnReader(int number, boolean on) {
            Reader reader = readerAt(number);
            if (reader == null || reader.on == on) {
                return false;
            }
            Stock.interrupt(this, number);
            reader.on = on;
            for (int i = 0; i < TAGS; i++) {
                if (tags[i].there) {
                    settlePower(tags[i]);
                }
            }
            return true;
        }

        void settlePower(Tag tag) {
            if ((tag.reach & readersOn()) != 0) {
                tag.darkSince = NONE;
                return;
            }
            if (tag.hasPower()) {
                tag.darkSince = tick;
            }
            if (tag.flag(0) == 1) {
                fade(tag, 0);
            }
        }

        void fade(Tag tag, int flag) {
            tag.setFlag(flag, 0, tick);
            counts[FADINGS]++;
        }

        // The TICK at which a FLAG fades that is B (SELECTED 1), as things are.
        int fadesAt(Tag tag, int flag) {
            if (flag == 1) {
                return tag.bSince + shortTicks;
            }
            return flag == 0 || tag.hasPower() ? NONE : tag.darkSince + longTicks;
        }

        int ticksToFade(Tag tag, int flag) {
            if (tag.flag(flag) == 0) {
                return 0;
            }
            int at = fadesAt(tag, flag);
            // SHORT or LONG may have become less since: the next TICK is the first that sees it.
            return at == NONE ? NONE : Math.max(1, at - tick);
        }

        void fadeByTime(Tag tag) {
            for (int flag = 1; flag < FLAGS && tag.flags != 0; flag++) {
                if (tag.flag(flag) == 1 && hasRunOut(tag, flag)) {
                    fade(tag, flag);
                }
            }
        }

        private boolean hasRunOut(Tag tag, int flag) {
            int at = fadesAt(tag, flag);
            return at != NONE && at <= tick;
        }

        void pass() {
            tick++;
            int taking = readersTaking();
            int jammed = tagsJammed(taking);
            counts[JAMS] += Integer.bitCount(jammed);
            for (int i = 0; i < READERS; i++) {
                if ((taking >> i & 1) == 1) {
                    Stock.ask(this, i, jammed);
                }
            }
            for (int i = 0; i < TAGS; i++) {
                if (tags[i].there) {
                    fadeByTime(tags[i]);
                }
            }
        }

        int selectBy(int number, int flag, int way, int p, int n, int mask) {
            Reader reader = readerAt(number);
            boolean known = flag >= 0 && flag < FLAGS && way >= 0 && way < FIRST_DO.length && isSpan(p, n);
            if (reader == null || !reader.isFree() || !known) {
                return NONE;
            }
            int value = lowest(mask, n);
            int first = 0;
            for (int i = 0; i < TAGS; i++) {
                Tag tag = tags[i];
                if (tag.there && tag.busy == NONE && tag.isReachedBy(number)) {
                    boolean isFirst = tag.span(p, n) == value;
                    first += isFirst ? 1 : 0;
                    change(tag, flag, isFirst ? FIRST_DO[way] : OTHERS_DO[way]);
                }
            }
            counts[SELECTS]++;
            write(number, WAS_SELECTED, first);
            return first;
        }

        void change(Tag tag, int flag, int deed) {
            if (deed == TURN) {
                tag.setFlag(flag, 1 - tag.flag(flag), tick);
            } else if (deed != NOTHING) {
                // YES is 1 as SELECTED, but A, which is 0, of a SESSION.
                tag.setFlag(flag, (deed == YES) == (flag == SELECTED) ? 1 : 0, tick);
            }
        }

        boolean putBits(int number, int tagNumber, int p, int n, int v) {
            Reader reader = readerAt(number);
            Tag tag = tagAt(tagNumber);
            if (reader == null || tag == null || !reader.isFree() || !tag.isReachedBy(number)) {
                return false;
            }
            if (tag.busy != NONE || tag.lastReader != number || p < ID_BITS || n < 1 || !isSpan(p, n)) {
                return false;
            }
            int behind = MEMORY_BITS - p - n;
            int place = lowest(NONE, n) << behind;
            tag.memory = tag.memory & ~place | v << behind & place;
            counts[PUTS]++;
            return true;
        }

        // The set of TAGS that a TAKING OF STOCK would have; NONE if there can't be such.
        int stockOf(int reader, int session, int target, int sort) {
            boolean known = session >= 0 && session < SESSIONS && target >= 0 && target <= 1;
            if (readerAt(reader) == null || !known || sort < 0 || sort > 2) {
                return NONE;
            }
            int set = 0;
            for (int i = 0; i < TAGS; i++) {
                Tag tag = tags[i];
                boolean sorted = sort == 0 || tag.flag(SELECTED) == (sort == 1 ? 1 : 0);
                if (tag.there && tag.busy == NONE && tag.isReachedBy(reader) && tag.flag(session) == target && sorted) {
                    set |= 1 << i;
                }
            }
            return set;
        }

        int powered(int session, int target) {
            if (session < 0 || session >= SESSIONS || target < 0 || target > 1) {
                return NONE;
            }
            int set = 0;
            for (int i = 0; i < TAGS; i++) {
                if (tags[i].there && tags[i].hasPower() && tags[i].flag(session) == target) {
                    set |= 1 << i;
                }
            }
            return set;
        }

        int tagsThere() {
            int set = 0;
            for (int i = 0; i < TAGS; i++) {
                set |= tags[i].there ? 1 << i : 0;
            }
            return set;
        }

        int tagsOf(int reader) {
            int set = 0;
            for (int i = 0; i < TAGS; i++) {
                set |= tags[i].there && tags[i].busy == reader ? 1 << i : 0;
            }
            return set;
        }

        int tagsJammed(int taking) {
            int set = 0;
            for (int i = 0; i < TAGS; i++) {
                set |= tags[i].there && isJammed(tags[i], taking) ? 1 << i : 0;
            }
            return set;
        }

        boolean isJammed(Tag tag, int taking) {
            Reader own = readerAt(tag.busy);
            if (own == null) {
                return false;
            }
            for (int i = 0; i < READERS; i++) {
                boolean isHeard = (taking >> i & 1) == 1 && tag.isReachedBy(i);
                if (i != tag.busy && isHeard && readers[i].channel == own.channel) {
                    return true;
                }
            }
            return false;
        }

        int readersOn() {
            int set = 0;
            for (int i = 0; i < READERS; i++) {
                set |= readers[i].on ? 1 << i : 0;
            }
            return set;
        }

        int readersTaking() {
            int set = 0;
            for (int i = 0; i < READERS; i++) {
                set |= readers[i].taking ? 1 << i : 0;
            }
            return set;
        }

        int tells(int what) {
            switch (what) {
                case 0:
                    return tick;
                case 1:
                    return draws;
                case 2:
                    return shortTicks;
                case 3:
                    return longTicks;
                case 4:
                case 5:
                case 6:
                case 7:
                    return tagsThat(what);
                case 8:
                    return readersOn();
                case 9:
                    return readersTaking();
                case 10:
                    return journal.came;
                default:
                    return NONE - 99999999;
            }
        }

        private int tagsThat(int what) {
            int number = 0;
            for (int i = 0; i < TAGS; i++) {
                Tag tag = tags[i];
                boolean fits = what == 4 || what == 5 && tag.hasPower()
                    || what == 6 && tag.busy != NONE || what == 7 && tag.flag(SELECTED) == 1;
                number += tag.there && fits ? 1 : 0;
            }
            return number;
        }

        void copyFrom(World o) {
            tick = o.tick;
            draws = o.draws;
            shortTicks = o.shortTicks;
            longTicks = o.longTicks;
            for (int i = 0; i < TAGS; i++) {
                tags[i].copyFrom(o.tags[i]);
            }
            for (int i = 0; i < READERS; i++) {
                readers[i].copyFrom(o.readers[i]);
            }
            journal.copyFrom(o.journal);
            System.arraycopy(o.counts, 0, counts, 0, COUNTS);
        }
    }

    /** TAKING STOCK, from its beginning until it is OVER or BROKEN. */
    private static final class Stock {
        static final int FIRST_Q_OF_FRAMES = 2;
        static final int MOST_Q_OF_FRAMES = 4;

        static int start(World w, int number, int session, int target, int sort, int mode) {
            Reader reader = w.readerAt(number);
            int set = w.stockOf(number, session, target, sort);
            if (reader == null || !reader.isFree() || set == NONE || mode < SLOTS || mode > LEARNT_TREE) {
                return NONE;
            }
            reader.start(session, target, sort, mode);
            for (int i = 0; i < TAGS; i++) {
                if ((set >> i & 1) == 1) {
                    w.tags[i].busy = number;
                }
            }
            w.write(number, BEGAN, Integer.bitCount(set));
            if (reader.hasSlots()) {
                newFrame(w, number, reader, mode == SLOTS ? reader.qByQf() : FIRST_Q_OF_FRAMES);
            } else if (mode == LEARNT_TREE) {
                reader.row.backwardsFrom(reader.learnt);
            } else {
                reader.row.add(Prefixes.NO_BITS);
            }
            return Integer.bitCount(set);
        }

        static boolean interrupt(World w, int number) {
            Reader reader = w.readerAt(number);
            if (reader == null || !reader.taking) {
                return false;
            }
            releaseAll(w, number);
            reader.rest();
            w.counts[BREAKS]++;
            w.write(number, WAS_BROKEN, reader.all.single);
            return true;
        }

        static void ask(World w, int number, int jammed) {
            Reader reader = w.readerAt(number);
            if (reader == null) {
                return;
            }
            if (reader.hasSlots()) {
                int answering = inSlotZero(w, number) & ~jammed;
                hear(w, number, reader, answering);
                afterSlot(w, number, reader, answering, jammed);
            } else {
                int prefix = reader.row.takeLast();
                int answering = begunBy(w, number, prefix) & ~jammed;
                hear(w, number, reader, answering);
                afterQuery(w, number, reader, prefix, Integer.bitCount(answering));
            }
        }

        private static void newFrame(World w, int number, Reader reader, int q) {
            reader.q = q;
            reader.frame.clear();
            reader.frames++;
            w.counts[FRAMES_BEGUN]++;
            for (int i = 0; i < TAGS; i++) {
                if (w.tags[i].busy == number) {
                    w.tags[i].slot = w.draw(1 << q);
                }
            }
        }

        private static int inSlotZero(World w, int number) {
            int set = 0;
            for (int i = 0; i < TAGS; i++) {
                set |= w.tags[i].busy == number && w.tags[i].slot == 0 ? 1 << i : 0;
            }
            return set;
        }

        private static int begunBy(World w, int number, int prefix) {
            int set = 0;
            for (int i = 0; i < TAGS; i++) {
                set |= w.tags[i].busy == number && Prefixes.begins(prefix, w.tags[i].id()) ? 1 << i : 0;
            }
            return set;
        }

        private static void hear(World w, int number, Reader reader, int answering) {
            int answered = Integer.bitCount(answering);
            w.counts[ASKED]++;
            if (answered == 0) {
                w.counts[EMPTIES]++;
                w.write(number, WAS_EMPTY, 0);
            } else if (answered == 1) {
                int tag = Integer.numberOfTrailingZeros(answering);
                w.counts[SINGLES]++;
                w.write(number, WAS_SINGLE, tag);
                readTag(w, number, reader, tag);
            } else {
                w.counts[CLASHES]++;
                w.write(number, WAS_CLASH, answered);
            }
            reader.all.add(answered);
        }

        private static void readTag(World w, int number, Reader reader, int tagNumber) {
            Tag tag = w.tagAt(tagNumber);
            if (tag == null) {
                return;
            }
            tag.setFlag(reader.session, 1 - tag.flag(reader.session), w.tick);
            w.counts[READ_TO_B] += tag.flag(reader.session);
            tag.timesRead++;
            tag.lastReader = number;
            tag.release();
            reader.noteRead(tagNumber);
        }

        private static void afterSlot(World w, int number, Reader reader, int answering, int jammed) {
            int answered = Integer.bitCount(answering);
            reader.frame.add(answered);
            if (answered > 1) {
                dropSlots(w, answering);
            }
            if (reader.mode == SLOTS) {
                stepQf(reader, answered);
            }
            boolean otherQ = reader.mode == SLOTS && reader.qByQf() != reader.q;
            if (otherQ) {
                newFrame(w, number, reader, reader.qByQf());
            } else if (reader.frame.sum() < 1 << reader.q) {
                countDown(w, number, jammed);
            } else if (w.tagsOf(number) != 0) {
                newFrame(w, number, reader, reader.mode == SLOTS ? reader.q : qByGuess(w, reader));
            } else {
                finish(w, number, reader);
            }
        }

        private static void stepQf(Reader reader, int answered) {
            if (answered == 0) {
                reader.qf = Math.max(0, reader.qf - reader.step);
            } else if (answered > 1) {
                reader.qf = Math.min(Reader.MOST_QF, reader.qf + reader.step);
            }
        }

        private static int qByGuess(World w, Reader reader) {
            Tally frame = reader.frame;
            int guessed = w.chances.guessBy(frame.empty, frame.single, frame.clash);
            if (guessed == NONE) {
                return Math.min(MOST_Q_OF_FRAMES, reader.q + 1);
            }
            return w.chances.bestFor(Math.max(1, guessed - frame.single));
        }

        private static void dropSlots(World w, int set) {
            for (int i = 0; i < TAGS; i++) {
                if ((set >> i & 1) == 1) {
                    w.tags[i].slot = NONE;
                }
            }
        }

        private static void countDown(World w, int number, int jammed) {
            for (int i = 0; i < TAGS; i++) {
                if (w.tags[i].busy == number && w.tags[i].slot > 0 && (jammed >> i & 1) == 0) {
                    w.tags[i].slot--;
                }
            }
        }

        private static void afterQuery(World w, int number, Reader reader, int prefix, int answered) {
            if (answered > 1 && Prefixes.lengthOf(prefix) < ID_BITS) {
                reader.row.add(Prefixes.longer(prefix, 1));
                reader.row.add(Prefixes.longer(prefix, 0));
            } else {
                reader.asked.add(answered == 0 ? prefix | Prefixes.EMPTY_MARK : prefix);
            }
            if (reader.row.size == 0) {
                reader.learnt.joinedFrom(reader.asked);
                finish(w, number, reader);
            }
        }

        private static void finish(World w, int number, Reader reader) {
            int left = Integer.bitCount(w.tagsOf(number));
            reader.missed = left;
            w.counts[MISSES] += left;
            releaseAll(w, number);
            reader.rest();
            w.counts[OVERS]++;
            w.write(number, WAS_OVER, reader.all.single);
        }

        private static void releaseAll(World w, int number) {
            for (int i = 0; i < TAGS; i++) {
                if (w.tags[i].busy == number) {
                    w.tags[i].release();
                }
            }
        }
    }

    /** What can be told of the TAGS alone. */
    private static final class Survey {
        // A span is told as one number: n, behind it p.
        static final int P_BITS = 6;

        static int channelTold(Tag[] tags, int what) {
            if (what < 0 || what > READERS) {
                return NONE;
            }
            int plan = fewestChannels(tags);
            return what < READERS ? channelIn(plan, what) : greatestIn(plan) + 1;
        }

        // A plan has two bits a READER, READER 0's highest: so the lesser plan is the first one.
        private static int fewestChannels(Tag[] tags) {
            int shared = sharedPairs(tags);
            int best = NONE;
            for (int plan = 0; plan < 256; plan++) {
                boolean less = best == NONE || greatestIn(plan) < greatestIn(best);
                if (less && fits(plan, shared)) {
                    best = plan;
                }
            }
            return best;
        }

        private static int channelIn(int plan, int reader) {
            return plan >> 2 * (READERS - 1 - reader) & 3;
        }

        private static int greatestIn(int plan) {
            int greatest = 0;
            for (int i = 0; i < READERS; i++) {
                greatest = Math.max(greatest, channelIn(plan, i));
            }
            return greatest;
        }

        private static boolean fits(int plan, int shared) {
            for (int a = 0; a < READERS; a++) {
                for (int b = 0; b < a; b++) {
                    boolean apart = channelIn(plan, a) != channelIn(plan, b);
                    if (!apart && (shared >> READERS * a + b & 1) == 1) {
                        return false;
                    }
                }
            }
            return true;
        }

        // The pairs of READERS that both reach a TAG, a bit each.
        private static int sharedPairs(Tag[] tags) {
            int pairs = 0;
            for (int i = 0; i < TAGS; i++) {
                for (int pair = 0; pair < READERS * READERS; pair++) {
                    boolean reached = tags[i].isReachedBy(pair / READERS) && tags[i].isReachedBy(pair % READERS);
                    pairs |= tags[i].there && reached ? 1 << pair : 0;
                }
            }
            return pairs;
        }

        static int fewestReaders(Tag[] tags) {
            int best = (1 << READERS) - 1;
            for (int set = best; set >= 0; set--) {
                if (Integer.bitCount(set) <= Integer.bitCount(best) && covers(tags, set)) {
                    best = set;
                }
            }
            return best;
        }

        private static boolean covers(Tag[] tags, int set) {
            for (int i = 0; i < TAGS; i++) {
                if (tags[i].there && tags[i].reach != 0 && (tags[i].reach & set) == 0) {
                    return false;
                }
            }
            return true;
        }

        private static int treeQueries(Tag[] tags, int set, int depth) {
            if (Integer.bitCount(set) <= 1 || depth >= ID_BITS) {
                return 1;
            }
            int ones = 0;
            for (int i = 0; i < TAGS; i++) {
                ones |= (set >> i & 1) == 1 && tags[i].span(depth, 1) == 1 ? 1 << i : 0;
            }
            return 1 + treeQueries(tags, set & ~ones, depth + 1) + treeQueries(tags, ones, depth + 1);
        }

        static int firstUnlike(Tag one, Tag other) {
            for (int i = 0; i < MEMORY_BITS; i++) {
                if (one.span(i, 1) != other.span(i, 1)) {
                    return i;
                }
            }
            return NONE;
        }

        static int valuesIn(Tag[] tags, int p, int n) {
            int number = 0;
            for (int i = 0; i < TAGS; i++) {
                number += tags[i].there && !isBefore(tags, i, p, n) ? 1 : 0;
            }
            return number;
        }

        private static boolean isBefore(Tag[] tags, int tag, int p, int n) {
            for (int i = 0; i < tag; i++) {
                if (tags[i].there && tags[i].span(p, n) == tags[tag].span(p, n)) {
                    return true;
                }
            }
            return false;
        }

        static int sharpTold(Tag[] tags, int what) {
            int there = 0;
            for (int i = 0; i < TAGS; i++) {
                there += tags[i].there ? 1 : 0;
            }
            if (there == 0 || what < 0 || what > 2) {
                return NONE;
            }
            int span = sharpSpan(tags);
            if (span == NONE) {
                return NONE;
            }
            return what == 2 ? there : told(span, what);
        }

        private static int sharpSpan(Tag[] tags) {
            for (int n = 0; n <= MEMORY_BITS; n++) {
                for (int p = 0; p < MEMORY_BITS && p <= MEMORY_BITS - n; p++) {
                    if (areUnlike(tags, p, n)) {
                        return n << P_BITS | p;
                    }
                }
            }
            return NONE;
        }

        private static boolean areUnlike(Tag[] tags, int p, int n) {
            for (int i = 0; i < TAGS; i++) {
                if (tags[i].there && isBefore(tags, i, p, n)) {
                    return false;
                }
            }
            return true;
        }

        static int leastTold(Tag[] tags, int what) {
            int model = firstSelected(tags);
            if (model == NONE || what < 0 || what > 2) {
                return NONE;
            }
            int span = leastSpan(tags, model);
            if (span == NONE) {
                return NONE;
            }
            return what == 2 ? tags[model].span(told(span, 1), told(span, 0)) : told(span, what);
        }

        private static int told(int span, int what) {
            return what == 0 ? span >> P_BITS : span & (1 << P_BITS) - 1;
        }

        private static int firstSelected(Tag[] tags) {
            for (int i = 0; i < TAGS; i++) {
                if (tags[i].there && tags[i].flag(SELECTED) == 1) {
                    return i;
                }
            }
            return NONE;
        }

        private static int leastSpan(Tag[] tags, int model) {
            for (int n = 0; n <= MEMORY_BITS; n++) {
                for (int p = 0; p < MEMORY_BITS && p <= MEMORY_BITS - n; p++) {
                    if (selectsJust(tags, p, n, tags[model].span(p, n))) {
                        return n << P_BITS | p;
                    }
                }
            }
            return NONE;
        }

        private static boolean selectsJust(Tag[] tags, int p, int n, int mask) {
            for (int i = 0; i < TAGS; i++) {
                boolean isFirst = tags[i].span(p, n) == mask;
                if (tags[i].there && isFirst != (tags[i].flag(SELECTED) == 1)) {
                    return false;
                }
            }
            return true;
        }
    }

    /** What is likely, exactly. */
    private static final class Chances {
        static final int MOST = 12;
        static final int MOST_Q = 4;
        static final int MOST_SLOTS = 1 << MOST_Q;

        // In how many ways m TAGS have k SLOTS, none of these alone in one; and so that none is EMPTY either.
        private final long[] withoutSingles = new long[(MOST_SLOTS + 1) * (MOST + 1)];
        private final long[] clashesAlone = new long[(MOST_SLOTS + 1) * (MOST + 1)];

        // BEST of each n: asked inside of a TICK, where calls are deep already.
        private final int[] bests = new int[MOST + 1];

        Chances() {
            fill(withoutSingles, 0);
            fill(clashesAlone, 2);
            for (int n = 1; n <= MOST; n++) {
                bests[n] = mostHopeful(n);
            }
        }

        private static int cell(int slots, int tags) {
            return slots * (MOST + 1) + tags;
        }

        private static void fill(long[] table, int fewest) {
            table[cell(0, 0)] = 1;
            for (int k = 1; k <= MOST_SLOTS; k++) {
                for (int m = 0; m <= MOST; m++) {
                    long sum = 0;
                    for (int j = fewest; j <= m; j++) {
                        sum += j == 1 ? 0 : choose(m, j) * table[cell(k - 1, m - j)];
                    }
                    table[cell(k, m)] = sum;
                }
            }
        }

        private static long choose(int n, int k) {
            long ways = 1;
            for (int i = 0; i < k; i++) {
                ways = ways * (n - i) / (i + 1);
            }
            return ways;
        }

        // In how many ways k of n come in a row.
        private static long inRow(int n, int k) {
            long ways = 1;
            for (int i = 0; i < k; i++) {
                ways *= n - i;
            }
            return ways;
        }

        private static long raised(long base, int exponent) {
            long product = 1;
            for (int i = 0; i < exponent; i++) {
                product *= base;
            }
            return product;
        }

        private static boolean isKnown(int n, int q) {
            return n >= 0 && n <= MOST && q >= 0 && q <= MOST_Q;
        }

        long waysOf(int n, int q, int s) {
            if (!isKnown(n, q) || s < 0 || s > n) {
                return NONE;
            }
            int slots = 1 << q;
            if (s > slots) {
                return 0;
            }
            return choose(slots, s) * inRow(n, s) * withoutSingles[cell(slots - s, n - s)];
        }

        // HOPE is hopeAbove by slots to the n - 1.
        private static long hopeAbove(int n, int slots) {
            return n * raised(slots - 1, n - 1);
        }

        long hopeOf(int n, int q, int what) {
            if (!isKnown(n, q) || what < 0 || what > 1) {
                return NONE;
            }
            long above = hopeAbove(n, 1 << q);
            long below = raised(1 << q, n - 1);
            long divisor = commonDivisor(above, below);
            return divisor == 0 ? NONE : (what == 0 ? above : below) / divisor;
        }

        int bestFor(int n) {
            return n < 1 || n > MOST ? NONE : bests[n];
        }

        private static int mostHopeful(int n) {
            int best = 0;
            for (int q = 1; q <= MOST_Q; q++) {
                if (hopeInSixteenths(n, q) > hopeInSixteenths(n, best)) {
                    best = q;
                }
            }
            return best;
        }

        // HOPE by L as a fraction of 16 to the n, so that all q are alike below.
        private static long hopeInSixteenths(int n, int q) {
            return hopeAbove(n, 1 << q) * raised(1 << (MOST_Q - q), n);
        }

        int guessBy(int e, int s, int c) {
            boolean single = e >= 0 && e <= MOST_SLOTS && s >= 0 && s <= MOST_SLOTS && c >= 0 && c <= MOST_SLOTS;
            if (!single || e + s + c > MOST_SLOTS || Integer.bitCount(e + s + c) != 1) {
                return NONE;
            }
            int guess = NONE;
            long most = 0;
            for (int n = s; n <= MOST; n++) {
                // Which SLOTS they are is as many ways for every n; 16 to the 12 is below for all.
                long ways = inRow(n, s) * clashesAlone[cell(c, n - s)] * raised(e + s + c, MOST - n);
                if (ways > most) {
                    most = ways;
                    guess = n;
                }
            }
            return guess;
        }
    }
}
