import java.util.Arrays;
import java.util.Random;

/** Long runs of calls, the same ones always, on TagReaders and on Model: all that can be told must be alike. */
public final class ModelTest {
    private static final Due DUE = new Due();

    public static void main(String[] args) {
        for (int seed = 1; seed <= 120 && DUE.isRight(); seed++) {
            run(seed);
        }
        chances();
        DUE.end();
    }

    private static void run(int seed) {
        Random chance = new Random(seed);
        TagReaders real = new TagReaders();
        Model model = new Model();
        int manner = seed % 4;
        for (int i = 0; i < 300 && DUE.isRight(); i++) {
            DUE.part("seed " + seed + ", call " + i);
            if (chance.nextInt(25) == 0) {
                boolean taken = chance.nextInt(3) > 0;
                DUE.is("image(" + taken + ")", real.image(taken), model.image(taken));
            } else {
                long[] call = call(chance, manner, model);
                DUE.is(Arrays.toString(call), doReal(real, call), model.act(call));
            }
            compare(real, model, chance);
        }
    }

    private static long doReal(TagReaders x, long[] c) {
        int a = (int) c[1];
        int b = c.length > 2 ? (int) c[2] : 0;
        int d = c.length > 3 ? (int) c[3] : 0;
        int e = c.length > 4 ? (int) c[4] : 0;
        int f = c.length > 5 ? (int) c[5] : 0;
        int g = c.length > 6 ? (int) c[6] : 0;
        switch ((int) c[0]) {
            case 0: return x.set(a, b) ? 1 : 0;
            case 1: return x.state(a);
            case 2: return x.tune(a, b, d) ? 1 : 0;
            case 3: return x.tag(a, b, d) ? 1 : 0;
            case 4: return x.gone(a) ? 1 : 0;
            case 5: return x.move(a, b) ? 1 : 0;
            case 6: return x.power(a, b == 1) ? 1 : 0;
            case 7: return x.select(a, b, d, e, f, g);
            case 8: return x.put(a, b, d, e, f) ? 1 : 0;
            case 9: return x.begin(a, b, d, e, f);
            case 10: return x.stop(a) ? 1 : 0;
            default: return x.tick(a);
        }
    }

    // Mostly what can be; now and then just beside it.
    private static int near(Random chance, int least, int most) {
        if (chance.nextInt(40) == 0) {
            return chance.nextBoolean() ? least - 1 : most + 1;
        }
        if (chance.nextInt(400) == 0) {
            return chance.nextInt();
        }
        return least + chance.nextInt(most - least + 1);
    }

    private static int memory(Random chance) {
        int[] heads = {0x0000, 0x8000, 0xC000, 0xFFF0, 0xA5A0, 0x1230};
        int id = heads[chance.nextInt(heads.length)] + chance.nextInt(chance.nextBoolean() ? 4 : 64);
        return chance.nextInt(5) == 0 ? chance.nextInt() : id << 16 | chance.nextInt(3) * 21845;
    }

    private static long[] call(Random chance, int manner, Model model) {
        int reader = near(chance, 0, manner == 0 ? 1 : 3);
        int kind = chance.nextInt(100);
        if (kind < 2) return new long[] {0, near(chance, 0, 1), near(chance, 1, chance.nextInt(3) == 0 ? 400 : 20)};
        if (kind < 4) return new long[] {1, chance.nextInt()};
        if (kind < 9) {
            int what = near(chance, 0, 2);
            int[] most = {64, 8, manner == 1 ? 0 : manner == 2 ? 1 : 3};
            return new long[] {2, reader, what, near(chance, what == 1 ? 1 : 0, most[Math.floorMod(what, 3)])};
        }
        if (kind < 30) return new long[] {3, near(chance, 0, 23), memory(chance), manner == 3 ? near(chance, 7, 15) : near(chance, 0, 15)};
        if (kind < 33) return new long[] {4, near(chance, 0, 23)};
        if (kind < 37) return new long[] {5, near(chance, 0, 23), near(chance, 0, 15)};
        if (kind < 46) return new long[] {6, reader, chance.nextInt(4) == 0 ? 0 : 1};
        if (kind < 56) {
            int p = near(chance, 0, 31);
            int n = near(chance, 0, Math.max(0, Math.min(32 - p, chance.nextBoolean() ? 3 : 32)));
            return new long[] {7, reader, near(chance, 0, 4), near(chance, 0, 7), p, n, chance.nextInt(3) - 1};
        }
        if (kind < 63) {
            int p = near(chance, 16, 31);
            int tag = near(chance, 0, 23);
            for (int i = 0; i < 8 && (!model.tags.containsKey(tag) || model.tags.get(tag).by != reader); i++) {
                tag = near(chance, 0, 23);
            }
            return new long[] {8, reader, tag, p, near(chance, 1, Math.max(1, 32 - p)), chance.nextInt()};
        }
        if (kind < 78) return new long[] {9, reader, near(chance, 0, 3), chance.nextInt(4) == 0 ? near(chance, 0, 1) : 0,
            chance.nextInt(4) == 0 ? near(chance, 0, 2) : 0, near(chance, 0, 3)};
        if (kind < 80) return new long[] {10, reader};
        return new long[] {11, chance.nextInt(3) == 0 ? near(chance, 1, 40) : near(chance, 1, 6)};
    }

    private static void compare(TagReaders x, Model m, Random chance) {
        for (int what = -1; what <= 11; what++) {
            DUE.is("look(" + what + ")", x.look(what), m.look(what));
        }
        for (int what = -1; what <= 14; what++) {
            DUE.is("count(" + what + ")", x.count(what), m.count(what));
        }
        for (int tag = -1; tag <= 24; tag++) {
            compareTag(x, m, tag);
        }
        for (int reader = -1; reader <= 4; reader++) {
            compareReader(x, m, reader);
        }
        for (int what = -1; what <= 5; what++) {
            DUE.is("channels(" + what + ")", x.channels(what), m.channels(what));
            DUE.is("never(" + what + ")", x.never(what), m.never(what));
            DUE.is("least(" + what + ")", x.least(what), m.least(what));
            DUE.is("sharp(" + what + ")", x.sharp(what), m.sharp(what));
        }
        DUE.is("cover()", x.cover(), m.cover());
        for (int session = -1; session <= 4; session++) {
            for (int target = -1; target <= 2; target++) {
                DUE.is("open(" + session + ", " + target + ")", x.open(session, target), m.open(session, target));
            }
        }
        for (int i = -1; i <= 5; i++) {
            for (int what = -1; what <= 4; what++) {
                DUE.is("log(" + i + ", " + what + ")", x.log(i, what), m.log(i, what));
            }
        }
        int line = 6 + chance.nextInt(60);
        DUE.is("log(" + line + ", 3)", x.log(line, 3), m.log(line, 3));
        int p = near(chance, 0, 31);
        int n = near(chance, 1, 32);
        DUE.is("values(" + p + ", " + n + ")", x.values(p, n), m.values(p, n));
        int tag = near(chance, 0, 23);
        DUE.is("bits(" + tag + ", " + p + ", " + n + ")", x.bits(tag, p, n), m.bits(tag, p, n));
        int other = near(chance, 0, 23);
        DUE.is("apart(" + tag + ", " + other + ")", x.apart(tag, other), m.apart(tag, other));
        if (chance.nextInt(12) == 0) {
            for (int reader = -1; reader <= 4; reader++) {
                DUE.is("lasts(" + reader + ")", x.lasts(reader), m.lasts(reader));
            }
        }
    }

    private static void compareTag(TagReaders x, Model m, int tag) {
        for (int what = -1; what <= 14; what++) {
            DUE.is("tagOf(" + tag + ", " + what + ")", x.tagOf(tag, what), m.tagOf(tag, what));
        }
        DUE.is("jammed(" + tag + ")", x.jammed(tag), m.jammed(tag));
        for (int flag = -1; flag <= 5; flag++) {
            DUE.is("fadesIn(" + tag + ", " + flag + ")", x.fadesIn(tag, flag), m.fadesIn(tag, flag));
        }
    }

    private static void compareReader(TagReaders x, Model m, int reader) {
        for (int what = -1; what <= 21; what++) {
            DUE.is("reader(" + reader + ", " + what + ")", x.reader(reader, what), m.reader(reader, what));
        }
        int learnt = m.reader(reader, 18);
        for (int i = -1; i <= learnt; i++) {
            for (int what = -1; what <= 3; what++) {
                DUE.is("learnt(" + reader + ", " + i + ", " + what + ")", x.learnt(reader, i, what), m.learnt(reader, i, what));
            }
        }
        int row = m.reader(reader, 11);
        for (int i = -1; i <= row; i++) {
            for (int what = -1; what <= 2; what++) {
                DUE.is("prefix(" + reader + ", " + i + ", " + what + ")", x.prefix(reader, i, what), m.prefix(reader, i, what));
            }
        }
        for (int i = -1; i <= 24; i++) {
            DUE.is("read(" + reader + ", " + i + ")", x.read(reader, i), m.read(reader, i));
        }
        for (int other = -1; other <= 4; other++) {
            DUE.is("both(" + reader + ", " + other + ")", x.both(reader, other), m.both(reader, other));
        }
        for (int session = -1; session <= 4; session++) {
            int target = session & 1;
            for (int sort = -1; sort <= 3; sort++) {
                String of = "(" + reader + ", " + session + ", " + target + ", " + sort + ")";
                DUE.is("wouldHave" + of, x.wouldHave(reader, session, target, sort), m.wouldHave(reader, session, target, sort));
                DUE.is("queries" + of, x.queries(reader, session, target, sort), m.queries(reader, session, target, sort));
            }
        }
    }

    private static void chances() {
        DUE.part("chances");
        TagReaders x = new TagReaders();
        for (int n = -1; n <= 13; n++) {
            DUE.is("best(" + n + ")", x.best(n), Model.best(n));
            for (int q = -1; q <= 5; q++) {
                for (int s = -1; s <= 13; s++) {
                    DUE.is("ways(" + n + ", " + q + ", " + s + ")", x.ways(n, q, s), Model.ways(n, q, s));
                }
                for (int what = -1; what <= 2; what++) {
                    DUE.is("hope(" + n + ", " + q + ", " + what + ")", x.hope(n, q, what), Model.hope(n, q, what));
                }
            }
        }
        for (int e = -1; e <= 17; e++) {
            for (int s = -1; s <= 17; s++) {
                for (int c = -1; c <= 17; c++) {
                    DUE.is("guess(" + e + ", " + s + ", " + c + ")", x.guess(e, s, c), Model.guess(e, s, c));
                }
            }
        }
    }
}
