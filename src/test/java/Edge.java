import java.util.Arrays;
import java.util.function.BooleanSupplier;
import java.util.function.LongSupplier;

/**
 * What the tests of the edges share. Each of their methods is one sentence of the document, which stands
 * above its calls (Due.part) and is told if an answer is not the one that is due.
 */
final class Edge {
    static final int NONE = -1;
    static final int MOST = Integer.MAX_VALUE;
    static final int LEAST = Integer.MIN_VALUE;
    static final int[] NO_READERS = {-1, 4, LEAST, MOST};
    static final int[] NO_TAGS = {-1, 24, LEAST, MOST};

    static final int SLOTS = 0;
    static final int TREE = 1;
    static final int FRAMES = 2;
    static final int LEARNT_TREE = 3;

    // The FLAGS as SELECT has them, and two of its WAYS.
    static final int SELECTED = 4;
    static final int ALL_YES = 1;
    static final int ALL_NO = 5;

    private final Due due;

    Edge(Due due) {
        this.due = due;
    }

    /** A TAG's MEMORY: ID above, the other bits below. */
    static int memory(int id, int rest) {
        return id << 16 | rest;
    }

    /** READERS of the set are ON; no TAGS. */
    static TagReaders on(int readers) {
        TagReaders x = new TagReaders();
        for (int i = 0; i < 4; i++) {
            if ((readers >> i & 1) == 1) {
                x.power(i, true);
            }
        }
        return x;
    }

    /** READERS of the set are ON; TAGS 0 on have these IDs, just the READERS of the set reach them. */
    static TagReaders with(int readers, int... ids) {
        TagReaders x = on(readers);
        come(x, readers, ids);
        return x;
    }

    static void come(TagReaders x, int reach, int... ids) {
        for (int i = 0; i < ids.length; i++) {
            x.tag(i, memory(ids[i], 0), reach);
        }
    }

    /** READERS of the set are ON; all 24 TAGS are there, TAG i with i as ID. */
    static TagReaders full(int readers) {
        TagReaders x = on(readers);
        for (int i = 0; i < 24; i++) {
            x.tag(i, memory(i, 0), readers);
        }
        return x;
    }

    static void ticks(TagReaders x, int n) {
        for (int left = n; left > 0; left -= 40) {
            x.tick(Math.min(left, 40));
        }
    }

    /** A FLAG of all TAGS that READER 0 reaches (not BUSY) is B, SELECTED 1. */
    static void turnOn(TagReaders x, int flag) {
        x.select(0, flag, flag == SELECTED ? ALL_YES : ALL_NO, 0, 0, 0);
    }

    void refused(TagReaders x, String call, LongSupplier act, long answer) {
        int[] before = Told.by(x);
        due.is(call, act.getAsLong(), answer);
        due.is(call + ": nothing is done", Arrays.equals(before, Told.by(x)), true);
    }

    void refused(TagReaders x, String call, BooleanSupplier act) {
        refused(x, call, () -> act.getAsBoolean() ? 1 : 0, 0);
    }

    /** What a READER tells from what on. */
    void reader(TagReaders x, int reader, int from, int... answers) {
        for (int k = 0; k < answers.length; k++) {
            due.is("reader(" + reader + ", " + (from + k) + ")", x.reader(reader, from + k), answers[k]);
        }
    }

    void slots(TagReaders x, int... answers) {
        for (int i = 0; i < answers.length; i++) {
            due.is("SLOT of TAG " + i, x.tagOf(i, 7), answers[i]);
        }
    }

    /** Line i of THE LOG: TICK, READER, what, the number. */
    void line(TagReaders x, int i, int... answers) {
        for (int k = 0; k < 4; k++) {
            due.is("log(" + i + ", " + k + ")", x.log(i, k), answers[k]);
        }
    }

    /** All PREFIXES that a READER has LEARNT, in texts of bits, those that were EMPTY with an e behind. */
    void learnt(TagReaders x, int reader, String... answers) {
        due.is("how many LEARNT", x.reader(reader, 18), answers.length);
        for (int i = 0; i < answers.length; i++) {
            String bits = answers[i].replace("e", "");
            due.is("learnt(" + i + ", 0)", x.learnt(reader, i, 0), bits.length());
            due.is("learnt(" + i + ", 1)", x.learnt(reader, i, 1), number(bits));
            due.is("learnt(" + i + ", 2)", x.learnt(reader, i, 2), bits.equals(answers[i]) ? 0 : 1);
        }
        due.is("no more LEARNT", x.learnt(reader, answers.length, 0), NONE);
    }

    /** All PREFIXES in a READER's row, in texts of bits. */
    void row(TagReaders x, int reader, String... answers) {
        due.is("how many in the row", x.reader(reader, 11), answers.length);
        for (int i = 0; i < answers.length; i++) {
            due.is("prefix(" + i + ", 0)", x.prefix(reader, i, 0), answers[i].length());
            due.is("prefix(" + i + ", 1)", x.prefix(reader, i, 1), number(answers[i]));
        }
        due.is("no more in the row", x.prefix(reader, answers.length, 0), NONE);
    }

    private static int number(String bits) {
        return bits.isEmpty() ? 0 : Integer.parseInt(bits, 2);
    }
}
