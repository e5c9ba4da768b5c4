import java.math.BigInteger;
import java.util.ArrayList;
import java.util.Arrays;
import java.util.Collections;
import java.util.HashMap;
import java.util.LinkedList;
import java.util.List;
import java.util.Map;
import java.util.TreeSet;

/**
 * The document once more, written as differently from TagReaders as can be: texts of bits, lists, ages
 * that grow instead of times that are kept, brute force, and THE IMAGE and LASTS by doing all calls again.
 */
final class Model {
    static final class Tag {
        String bits;
        int reach;
        boolean[] flag = new boolean[5];
        int busy = -1;
        int slot = -1;
        int reads = 0;
        int by = -1;
        int bAge = 0;
        int darkAge = 0;
        boolean powered = true;

        int id() {
            return Integer.parseInt(bits.substring(0, 16), 2);
        }
    }

    static final class Reader {
        boolean on, taking;
        int qf = 32, step = 2, channel = 0, session, target, sort, mode, q, frames, missed, questions;
        int slotsGone, frameEmpty, frameSingle, frameClash, empty, clash;
        List<Integer> read = new ArrayList<>();
        LinkedList<String> row = new LinkedList<>();
        List<String> asked = new ArrayList<>();
        List<String> learnt = new ArrayList<>(List.of(""));

        int answer(int what, long tagsLeft) {
            int top = read.size();
            int bottom = questions;
            int g = bottom == 0 ? 1 : BigInteger.valueOf(top).gcd(BigInteger.valueOf(bottom)).intValue();
            int[] all = {on ? 1 : 0, taking ? 1 : 0, qf, step, session, target, sort, mode, q,
                taking ? slotsGone : 0, (int) tagsLeft, row.size(), top, empty, clash, frames, missed, channel,
                learnt.size(), bottom == 0 ? 0 : top / g, bottom == 0 ? 1 : bottom / g};
            return what < 0 || what >= all.length ? -1 : all[what];
        }
    }

    Map<Integer, Tag> tags = new java.util.TreeMap<>();
    Reader[] readers = {new Reader(), new Reader(), new Reader(), new Reader()};
    List<int[]> log = new ArrayList<>();
    int[] counts = new int[14];
    int tick, state, shortTicks = 20, longTicks = 40;
    List<long[]> done = new ArrayList<>();
    List<long[]> image = null;

    static Model again(List<long[]> calls) {
        Model m = new Model();
        for (long[] c : calls) {
            m.act(c);
        }
        return m;
    }

    long act(long[] c) {
        done.add(c);
        int[] a = new int[c.length];
        for (int i = 0; i < a.length; i++) {
            a[i] = (int) c[i];
        }
        switch (a[0]) {
            case 0: return set(a[1], a[2]) ? 1 : 0;
            case 1: { int old = state; state = a[1]; return old; }
            case 2: return tune(a[1], a[2], a[3]) ? 1 : 0;
            case 3: return tag(a[1], a[2], a[3]) ? 1 : 0;
            case 4: return tags.remove(a[1]) == null ? 0 : 1;
            case 5: return move(a[1], a[2]) ? 1 : 0;
            case 6: return power(a[1], a[2] == 1) ? 1 : 0;
            case 7: return select(a[1], a[2], a[3], a[4], a[5], a[6]);
            case 8: return put(a[1], a[2], a[3], a[4], a[5]) ? 1 : 0;
            case 9: return begin(a[1], a[2], a[3], a[4], a[5]);
            case 10: return isReader(a[1]) && broken(a[1]) ? 1 : 0;
            default: return ticks(a[1]);
        }
    }

    boolean image(boolean taken) {
        if (taken) {
            image = new ArrayList<>(done);
            return true;
        }
        if (image == null) {
            return false;
        }
        Model old = again(image);
        tags = old.tags;
        readers = old.readers;
        log = old.log;
        counts = old.counts;
        tick = old.tick;
        state = old.state;
        shortTicks = old.shortTicks;
        longTicks = old.longTicks;
        done = new ArrayList<>(image);
        return true;
    }

    boolean isReader(int r) {
        return r >= 0 && r < 4;
    }

    boolean set(int what, int v) {
        if (what == 0 && v > 0 && v < 201) {
            shortTicks = v;
            return true;
        }
        if (what == 1 && v > 0 && v < 401) {
            longTicks = v;
            return true;
        }
        return false;
    }

    boolean tune(int r, int what, int v) {
        if (!isReader(r) || what < 0 || what > 2) {
            return false;
        }
        int[][] range = {{0, 64}, {1, 8}, {0, 3}};
        if (v < range[what][0] || v > range[what][1]) {
            return false;
        }
        if (what == 0) readers[r].qf = v;
        if (what == 1) readers[r].step = v;
        if (what == 2) readers[r].channel = v;
        return true;
    }

    static String bits32(int memory) {
        String s = Integer.toBinaryString(memory);
        return "0".repeat(32 - s.length()) + s;
    }

    boolean tag(int number, int memory, int reach) {
        if (number < 0 || number > 23 || tags.containsKey(number) || reach < 0 || reach > 15) {
            return false;
        }
        String bits = bits32(memory);
        for (Tag t : tags.values()) {
            if (t.bits.substring(0, 16).equals(bits.substring(0, 16))) {
                return false;
            }
        }
        Tag t = new Tag();
        t.bits = bits;
        t.reach = reach;
        tags.put(number, t);
        powerAll();
        return true;
    }

    boolean move(int number, int reach) {
        Tag t = tags.get(number);
        if (t == null || reach < 0 || reach > 15) {
            return false;
        }
        t.reach = reach;
        if (t.busy >= 0 && (reach & (1 << t.busy)) == 0) {
            t.busy = -1;
            t.slot = -1;
            counts[7]++;
        }
        powerAll();
        return true;
    }

    boolean power(int r, boolean on) {
        if (!isReader(r) || readers[r].on == on) {
            return false;
        }
        broken(r);
        readers[r].on = on;
        powerAll();
        return true;
    }

    void powerAll() {
        for (Tag t : tags.values()) {
            boolean powered = false;
            for (int r = 0; r < 4; r++) {
                powered |= readers[r].on && (t.reach & (1 << r)) != 0;
            }
            if (t.powered && !powered) {
                t.darkAge = 0;
            }
            t.powered = powered;
            if (!powered && t.flag[0]) {
                t.flag[0] = false;
                counts[9]++;
            }
        }
    }

    void turn(Tag t, int flag, boolean b) {
        t.flag[flag] = b;
        if (flag == 1) {
            t.bAge = 0;
        }
    }

    int select(int r, int flag, int way, int p, int n, int mask) {
        if (!isReader(r) || !readers[r].on || readers[r].taking || flag < 0 || flag > 4 || way < 0 || way > 7) {
            return -1;
        }
        if (p < 0 || p > 31 || n < 0 || n > 32 - p) {
            return -1;
        }
        String[] ways = {"YN", "Y-", "-N", "T-", "NY", "N-", "-Y", "-T"};
        String wanted = bits32(mask).substring(32 - n);
        int first = 0;
        for (Tag t : tags.values()) {
            if ((t.reach & (1 << r)) == 0 || t.busy >= 0) {
                continue;
            }
            boolean match = t.bits.substring(p, p + n).equals(wanted);
            if (match) {
                first++;
            }
            char deed = ways[way].charAt(match ? 0 : 1);
            if (deed == 'Y') turn(t, flag, flag == 4);
            if (deed == 'N') turn(t, flag, flag != 4);
            if (deed == 'T') turn(t, flag, !t.flag[flag]);
        }
        counts[10]++;
        log.add(new int[] {tick, r, 6, first});
        return first;
    }

    boolean put(int r, int number, int p, int n, int v) {
        Tag t = tags.get(number);
        if (!isReader(r) || t == null || !readers[r].on || readers[r].taking) {
            return false;
        }
        if ((t.reach & (1 << r)) == 0 || t.busy >= 0 || t.by != r || p < 16 || p > 31 || n < 1 || n > 32 - p) {
            return false;
        }
        t.bits = t.bits.substring(0, p) + bits32(v).substring(32 - n) + t.bits.substring(p + n);
        counts[13]++;
        return true;
    }

    List<Tag> stock(int r, int session, int target, int sort) {
        if (!isReader(r) || session < 0 || session > 3 || target < 0 || target > 1 || sort < 0 || sort > 2) {
            return null;
        }
        List<Tag> of = new ArrayList<>();
        for (Tag t : tags.values()) {
            boolean sorted = sort == 0 || sort == 1 && t.flag[4] || sort == 2 && !t.flag[4];
            if ((t.reach & (1 << r)) != 0 && t.busy < 0 && t.flag[session] == (target == 1) && sorted) {
                of.add(t);
            }
        }
        return of;
    }

    int begin(int r, int session, int target, int sort, int mode) {
        List<Tag> of = stock(r, session, target, sort);
        if (of == null || mode < 0 || mode > 3 || !readers[r].on || readers[r].taking) {
            return -1;
        }
        Reader x = readers[r];
        x.taking = true;
        x.session = session;
        x.target = target;
        x.sort = sort;
        x.mode = mode;
        x.read.clear();
        x.asked.clear();
        x.row.clear();
        x.empty = x.clash = x.frames = x.missed = x.questions = x.slotsGone = 0;
        for (Tag t : of) {
            t.busy = r;
        }
        log.add(new int[] {tick, r, 0, of.size()});
        if (mode == 0 || mode == 2) {
            frame(r, mode == 2 ? 2 : (x.qf + 4) / 8);
        } else if (mode == 1) {
            x.row.add("");
        } else {
            for (String s : x.learnt) {
                x.row.add(s.replace("e", ""));
            }
        }
        return of.size();
    }

    List<Tag> own(int r) {
        List<Tag> list = new ArrayList<>();
        for (Tag t : tags.values()) {
            if (t.busy == r) {
                list.add(t);
            }
        }
        return list;
    }

    void frame(int r, int q) {
        Reader x = readers[r];
        x.q = q;
        x.frames++;
        counts[4]++;
        x.slotsGone = x.frameEmpty = x.frameSingle = x.frameClash = 0;
        for (Tag t : own(r)) {
            long next = (state * 1664525L + 1013904223L) & 0xFFFFFFFFL;
            state = (int) next;
            t.slot = (int) ((next / 256) % (1L << q));
        }
    }

    boolean broken(int r) {
        Reader x = readers[r];
        if (!x.taking) {
            return false;
        }
        idle(r);
        counts[6]++;
        log.add(new int[] {tick, r, 5, x.read.size()});
        return true;
    }

    void idle(int r) {
        readers[r].taking = false;
        readers[r].row.clear();
        for (Tag t : own(r)) {
            t.busy = -1;
            t.slot = -1;
        }
    }

    int ticks(int n) {
        if (n < 1 || n > 40 || tick + n > 9999) {
            return -1;
        }
        for (int i = 0; i < n; i++) {
            oneTick();
        }
        return tick;
    }

    boolean jam(Tag t) {
        if (t.busy < 0) {
            return false;
        }
        boolean jam = false;
        for (int r = 0; r < 4; r++) {
            jam |= r != t.busy && readers[r].taking && (t.reach & (1 << r)) != 0
                && readers[r].channel == readers[t.busy].channel;
        }
        return jam;
    }

    void oneTick() {
        tick++;
        List<Integer> takers = new ArrayList<>();
        for (int r = 0; r < 4; r++) {
            if (readers[r].taking) {
                takers.add(r);
            }
        }
        List<Tag> deaf = new ArrayList<>();
        for (Tag t : tags.values()) {
            t.bAge++;
            t.darkAge++;
            if (jam(t)) {
                deaf.add(t);
                counts[11]++;
            }
        }
        for (int r : takers) {
            if (readers[r].mode % 2 == 0) {
                slot(r, deaf);
            } else {
                query(r, deaf);
            }
        }
        for (Tag t : tags.values()) {
            for (int f = 1; f < 5; f++) {
                boolean over = f == 1 ? t.bAge >= shortTicks : !t.powered && t.darkAge >= longTicks;
                if (t.flag[f] && over) {
                    t.flag[f] = false;
                    counts[9]++;
                }
            }
        }
    }

    void outcome(int r, List<Tag> answer) {
        Reader x = readers[r];
        x.questions++;
        counts[0]++;
        if (answer.isEmpty()) {
            x.empty++;
            counts[1]++;
            log.add(new int[] {tick, r, 1, 0});
        } else if (answer.size() > 1) {
            x.clash++;
            counts[3]++;
            log.add(new int[] {tick, r, 3, answer.size()});
        } else {
            Tag t = answer.get(0);
            int number = -1;
            for (Map.Entry<Integer, Tag> e : tags.entrySet()) {
                if (e.getValue() == t) {
                    number = e.getKey();
                }
            }
            counts[2]++;
            log.add(new int[] {tick, r, 2, number});
            x.read.add(number);
            turn(t, x.session, !t.flag[x.session]);
            counts[8] += t.flag[x.session] ? 1 : 0;
            t.reads++;
            t.by = r;
            t.busy = -1;
            t.slot = -1;
        }
    }

    void over(int r) {
        Reader x = readers[r];
        x.missed = own(r).size();
        counts[12] += x.missed;
        idle(r);
        counts[5]++;
        log.add(new int[] {tick, r, 4, x.read.size()});
    }

    void slot(int r, List<Tag> deaf) {
        Reader x = readers[r];
        List<Tag> answer = new ArrayList<>();
        for (Tag t : own(r)) {
            if (t.slot == 0 && !deaf.contains(t)) {
                answer.add(t);
            }
        }
        outcome(r, answer);
        if (answer.size() == 0) x.frameEmpty++;
        if (answer.size() == 1) x.frameSingle++;
        if (answer.size() > 1) x.frameClash++;
        if (answer.size() > 1) {
            for (Tag t : answer) {
                t.slot = -1;
            }
        }
        x.slotsGone++;
        boolean last = x.slotsGone == 1 << x.q;
        boolean left = !own(r).isEmpty();
        if (x.mode == 0) {
            if (answer.size() == 0) x.qf = x.qf < x.step ? 0 : x.qf - x.step;
            if (answer.size() > 1) x.qf = x.qf + x.step > 64 ? 64 : x.qf + x.step;
            if ((x.qf + 4) / 8 != x.q) {
                frame(r, (x.qf + 4) / 8);
                return;
            }
        }
        if (last && !left) {
            over(r);
        } else if (last) {
            int q = x.q;
            if (x.mode == 2) {
                int g = guess(x.frameEmpty, x.frameSingle, x.frameClash);
                q = g < 0 ? (q == 4 ? 4 : q + 1) : best(g > x.frameSingle ? g - x.frameSingle : 1);
            }
            frame(r, q);
        } else {
            for (Tag t : own(r)) {
                if (t.slot > 0 && !deaf.contains(t)) {
                    t.slot--;
                }
            }
        }
    }

    void query(int r, List<Tag> deaf) {
        Reader x = readers[r];
        String prefix = x.row.removeFirst();
        List<Tag> answer = new ArrayList<>();
        for (Tag t : own(r)) {
            if (t.bits.startsWith(prefix) && !deaf.contains(t)) {
                answer.add(t);
            }
        }
        outcome(r, answer);
        if (answer.size() > 1) {
            x.row.addFirst(prefix + "1");
            x.row.addFirst(prefix + "0");
        } else {
            x.asked.add(answer.isEmpty() ? prefix + "e" : prefix);
        }
        if (x.row.isEmpty()) {
            x.learnt = new ArrayList<>(x.asked);
            while (join(x.learnt)) {
                continue;
            }
            over(r);
        }
    }

    // The first two that are side by side, EMPTY both, and one PREFIX's two.
    static boolean join(List<String> list) {
        for (int i = 0; i + 1 < list.size(); i++) {
            String a = list.get(i);
            String b = list.get(i + 1);
            if (a.endsWith("0e") && b.endsWith("1e") && a.length() == b.length()
                && a.substring(0, a.length() - 2).equals(b.substring(0, b.length() - 2))) {
                list.set(i, a.substring(0, a.length() - 2) + "e");
                list.remove(i + 1);
                return true;
            }
        }
        return false;
    }

    int tagOf(int number, int what) {
        Tag t = tags.get(number);
        if (t == null || what < 0 || what > 13) {
            return -2;
        }
        if (what < 5) {
            return t.flag[what] ? 1 : 0;
        }
        int[] rest = {t.powered ? 1 : 0, t.busy, t.slot, t.reach, t.reads, t.by, t.flag[1] ? t.bAge : -1,
            t.powered ? -1 : t.darkAge, t.id()};
        return rest[what - 5];
    }

    int bits(int number, int p, int n) {
        Tag t = tags.get(number);
        return t == null || n < 1 || n > 31 || p < 0 || p > 32 - n ? -1 : Integer.parseInt(t.bits.substring(p, p + n), 2);
    }

    int reader(int r, int what) {
        return isReader(r) ? readers[r].answer(what, own(r).size()) : -1;
    }

    static int told(List<String> list, int i, int what) {
        if (i < 0 || i >= list.size() || what < 0 || what > 2) {
            return -1;
        }
        String s = list.get(i);
        String bare = s.replace("e", "");
        return what == 0 ? bare.length() : what == 2 ? s.length() - bare.length() : Integer.parseInt("0" + bare, 2);
    }

    int prefix(int r, int i, int what) {
        return isReader(r) && what != 2 ? told(readers[r].row, i, what) : -1;
    }

    int learnt(int r, int i, int what) {
        return isReader(r) ? told(readers[r].learnt, i, what) : -1;
    }

    int jammed(int number) {
        Tag t = tags.get(number);
        return t == null || t.busy < 0 ? -1 : jam(t) ? 1 : 0;
    }

    int channels(int what) {
        if (what < 0 || what > 4) {
            return -1;
        }
        for (int most = 0; most < 4; most++) {
            for (int a = 0; a <= most; a++) {
                for (int b = 0; b <= most; b++) {
                    for (int c = 0; c <= most; c++) {
                        for (int d = 0; d <= most; d++) {
                            int[] plan = {a, b, c, d};
                            if (quiet(plan)) {
                                return what == 4 ? most + 1 : plan[what];
                            }
                        }
                    }
                }
            }
        }
        return -99;
    }

    boolean quiet(int[] plan) {
        for (Tag t : tags.values()) {
            for (int i = 0; i < 4; i++) {
                for (int j = 0; j < 4; j++) {
                    if (i != j && plan[i] == plan[j] && (t.reach >> i & t.reach >> j & 1) == 1) {
                        return false;
                    }
                }
            }
        }
        return true;
    }

    int cover() {
        int best = 15;
        for (int set = 0; set < 16; set++) {
            boolean covers = true;
            for (Tag t : tags.values()) {
                covers &= t.reach == 0 || (t.reach & set) != 0;
            }
            if (covers && Integer.bitCount(set) < Integer.bitCount(best)) {
                best = set;
            }
        }
        return best;
    }

    int read(int r, int i) {
        return !isReader(r) || i < 0 || i >= readers[r].read.size() ? -1 : readers[r].read.get(i);
    }

    int wouldHave(int r, int session, int target, int sort) {
        List<Tag> of = stock(r, session, target, sort);
        return of == null ? -1 : of.size();
    }

    int queries(int r, int session, int target, int sort) {
        List<Tag> of = stock(r, session, target, sort);
        return of == null ? -1 : queriesOf(of, "");
    }

    static int queriesOf(List<Tag> of, String prefix) {
        int number = 0;
        for (Tag t : of) {
            number += t.bits.startsWith(prefix) ? 1 : 0;
        }
        return number < 2 ? 1 : 1 + queriesOf(of, prefix + "0") + queriesOf(of, prefix + "1");
    }

    int lasts(int r) {
        if (!isReader(r)) {
            return -1;
        }
        Model m = again(done);
        for (int i = 0; i <= 500; i++) {
            if (!m.readers[r].taking) {
                return i;
            }
            m.oneTick();
        }
        return -1;
    }

    static final Map<String, BigInteger> SHAPES = new HashMap<>();

    // In how many ways n TAGS have slots, so that e are EMPTY, s SINGLE, the others CLASHES: slot by slot.
    static BigInteger shapes(int n, int e, int s, int c) {
        if (e < 0 || s < 0 || c < 0) {
            return BigInteger.ZERO;
        }
        if (e + s + c == 0) {
            return n == 0 ? BigInteger.ONE : BigInteger.ZERO;
        }
        String key = n + " " + e + " " + s + " " + c;
        if (!SHAPES.containsKey(key)) {
            BigInteger sum = BigInteger.ZERO;
            for (int j = 0; j <= n; j++) {
                BigInteger rest = shapes(n - j, e - (j == 0 ? 1 : 0), s - (j == 1 ? 1 : 0), c - (j > 1 ? 1 : 0));
                sum = sum.add(rest.multiply(choose(n, j)));
            }
            SHAPES.put(key, sum);
        }
        return SHAPES.get(key);
    }

    static BigInteger choose(int n, int k) {
        return k == 0 || k == n ? BigInteger.ONE : choose(n - 1, k - 1).add(choose(n - 1, k));
    }

    static BigInteger waysBig(int n, int q, int s) {
        BigInteger sum = BigInteger.ZERO;
        for (int e = 0; e + s <= 1 << q; e++) {
            sum = sum.add(shapes(n, e, s, (1 << q) - e - s));
        }
        return sum;
    }

    static long ways(int n, int q, int s) {
        return n < 0 || n > 12 || q < 0 || q > 4 || s < 0 || s > n ? -1 : waysBig(n, q, s).longValueExact();
    }

    // By the average of all ways.
    static BigInteger[] hopeBig(int n, int q) {
        BigInteger above = BigInteger.ZERO;
        for (int s = 0; s <= n; s++) {
            above = above.add(waysBig(n, q, s).multiply(BigInteger.valueOf(s)));
        }
        BigInteger below = BigInteger.valueOf(1L << q).pow(n);
        BigInteger g = above.gcd(below);
        return new BigInteger[] {above.divide(g), below.divide(g)};
    }

    static long hope(int n, int q, int what) {
        return n < 0 || n > 12 || q < 0 || q > 4 || what < 0 || what > 1 ? -1 : hopeBig(n, q)[what].longValueExact();
    }

    static final int[] BEST = new int[13];

    static int best(int n) {
        if (n < 1 || n > 12) {
            return -1;
        }
        if (BEST[n] > 0) {
            return BEST[n] - 1;
        }
        int best = 0;
        for (int q = 1; q < 5; q++) {
            BigInteger[] a = hopeBig(n, q);
            BigInteger[] b = hopeBig(n, best);
            // a by its slots > b by its slots
            BigInteger left = a[0].multiply(b[1]).shiftLeft(best);
            BigInteger right = b[0].multiply(a[1]).shiftLeft(q);
            if (left.compareTo(right) > 0) {
                best = q;
            }
        }
        BEST[n] = best + 1;
        return best;
    }

    static final Map<String, Integer> GUESSES = new HashMap<>();

    static int guess(int e, int s, int c) {
        if (e < 0 || s < 0 || c < 0 || e > 16 || s > 16 || c > 16) {
            return -1;
        }
        int all = e + s + c;
        if (!Arrays.asList(1, 2, 4, 8, 16).contains(all)) {
            return -1;
        }
        String key = e + " " + s + " " + c;
        if (GUESSES.containsKey(key)) {
            return GUESSES.get(key);
        }
        int guess = -1;
        BigInteger most = BigInteger.ZERO;
        BigInteger mostOf = BigInteger.ONE;
        for (int n = 0; n <= 12; n++) {
            BigInteger w = shapes(n, e, s, c);
            BigInteger of = BigInteger.valueOf(all).pow(n);
            if (w.multiply(mostOf).compareTo(most.multiply(of)) > 0) {
                guess = n;
                most = w;
                mostOf = of;
            }
        }
        GUESSES.put(key, guess);
        return guess;
    }

    int least(int what) {
        List<Tag> yes = new ArrayList<>();
        List<Tag> no = new ArrayList<>();
        for (Tag t : tags.values()) {
            (t.flag[4] ? yes : no).add(t);
        }
        if (yes.isEmpty() || what < 0 || what > 2) {
            return -1;
        }
        for (int n = 0; n <= 32; n++) {
            for (int p = 0; p + n <= 32; p++) {
                TreeSet<String> in = spans(yes, p, n);
                if (in.size() == 1 && Collections.disjoint(in, spans(no, p, n))) {
                    return what == 0 ? n : what == 1 ? p : (int) Long.parseLong("0" + in.first(), 2);
                }
            }
        }
        return -1;
    }

    static TreeSet<String> spans(Iterable<Tag> of, int p, int n) {
        TreeSet<String> set = new TreeSet<>();
        for (Tag t : of) {
            set.add(t.bits.substring(p, p + n));
        }
        return set;
    }

    int sharp(int what) {
        if (tags.isEmpty() || what < 0 || what > 2) {
            return -1;
        }
        for (int n = 0; n <= 32; n++) {
            for (int p = 0; p + n <= 32; p++) {
                int values = spans(tags.values(), p, n).size();
                if (values == tags.size()) {
                    return what == 0 ? n : what == 1 ? p : values;
                }
            }
        }
        return -1;
    }

    int values(int p, int n) {
        return n < 1 || n > 32 || p < 0 || p > 32 - n ? -1 : spans(tags.values(), p, n).size();
    }

    int fadesIn(int number, int flag) {
        Tag t = tags.get(number);
        if (t == null || flag < 0 || flag > 4) {
            return -1;
        }
        if (!t.flag[flag]) {
            return 0;
        }
        int bAge = t.bAge;
        int darkAge = t.darkAge;
        for (int i = 1; i <= 400; i++) {
            bAge++;
            darkAge++;
            if (flag == 1 ? bAge >= shortTicks : flag > 1 && !t.powered && darkAge >= longTicks) {
                return i;
            }
        }
        return -1;
    }

    int both(int one, int other) {
        if (!isReader(one) || !isReader(other) || one == other) {
            return -1;
        }
        TreeSet<Integer> set = new TreeSet<>(readers[one].read);
        set.retainAll(readers[other].read);
        set.retainAll(tags.keySet());
        return set.size();
    }

    int open(int session, int target) {
        if (session < 0 || session > 3 || target < 0 || target > 1) {
            return -1;
        }
        int set = 0;
        for (Map.Entry<Integer, Tag> e : tags.entrySet()) {
            if (e.getValue().powered && e.getValue().flag[session] == (target == 1)) {
                set += 1 << e.getKey();
            }
        }
        return set;
    }

    int apart(int one, int other) {
        Tag a = tags.get(one);
        Tag b = tags.get(other);
        if (a == null || b == null || a == b) {
            return -1;
        }
        int i = 0;
        while (a.bits.charAt(i) == b.bits.charAt(i)) {
            i++;
        }
        return i;
    }

    int log(int i, int what) {
        return i < 0 || i > 59 || i >= log.size() || what < 0 || what > 3 ? -1 : log.get(log.size() - 1 - i)[what];
    }

    int never(int what) {
        return what < 0 || what > 2 ? -1 : 0;
    }

    int count(int what) {
        return what < 0 || what > 13 ? -1 : counts[what];
    }

    int look(int what) {
        int there = tags.size();
        int powered = 0;
        int busy = 0;
        int selected = 0;
        int on = 0;
        int taking = 0;
        for (Tag t : tags.values()) {
            powered += t.powered ? 1 : 0;
            busy += t.busy >= 0 ? 1 : 0;
            selected += t.flag[4] ? 1 : 0;
        }
        for (int r = 0; r < 4; r++) {
            on += readers[r].on ? 1 << r : 0;
            taking += readers[r].taking ? 1 << r : 0;
        }
        int[] all = {tick, state, shortTicks, longTicks, there, powered, busy, selected, on, taking, log.size()};
        return what < 0 || what > 10 ? -100000000 : all[what];
    }
}
