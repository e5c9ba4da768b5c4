/** All that can be told of an object, in one row: by it a refused call is seen to change nothing. */
final class Told {
    private static final int MOST = 12000;

    private final int[] row = new int[MOST];
    private int size = 0;

    private Told() {
    }

    static int[] by(TagReaders x) {
        Told told = new Told();
        told.ofAll(x);
        for (int tag = 0; tag < 24; tag++) {
            told.ofTag(x, tag);
        }
        for (int reader = 0; reader < 4; reader++) {
            told.ofReader(x, reader);
        }
        return java.util.Arrays.copyOf(told.row, told.size);
    }

    private void add(int answer) {
        row[size] = answer;
        size++;
    }

    private void ofAll(TagReaders x) {
        for (int what = 0; what <= 10; what++) {
            add(x.look(what));
        }
        for (int what = 0; what <= 13; what++) {
            add(x.count(what));
        }
        for (int line = 0; line < 60; line++) {
            for (int what = 0; what < 4; what++) {
                add(x.log(line, what));
            }
        }
        for (int what = 0; what <= 4; what++) {
            add(x.channels(what));
        }
        for (int what = 0; what <= 2; what++) {
            add(x.least(what));
            add(x.sharp(what));
        }
        add(x.cover());
    }

    private void ofTag(TagReaders x, int tag) {
        for (int what = 0; what <= 13; what++) {
            add(x.tagOf(tag, what));
        }
        add(x.bits(tag, 0, 16));
        add(x.bits(tag, 16, 16));
        add(x.jammed(tag));
        for (int flag = 0; flag <= 4; flag++) {
            add(x.fadesIn(tag, flag));
        }
    }

    private void ofReader(TagReaders x, int reader) {
        for (int what = 0; what <= 20; what++) {
            add(x.reader(reader, what));
        }
        for (int i = 0; i < x.reader(reader, 11); i++) {
            add(x.prefix(reader, i, 0));
            add(x.prefix(reader, i, 1));
        }
        for (int i = 0; i < x.reader(reader, 18); i++) {
            add(x.learnt(reader, i, 0));
            add(x.learnt(reader, i, 1));
            add(x.learnt(reader, i, 2));
        }
        for (int i = 0; i < 24; i++) {
            add(x.read(reader, i));
        }
        add(x.lasts(reader));
    }
}
