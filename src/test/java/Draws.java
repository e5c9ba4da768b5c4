/** DRAWS as the document tells them, to know beforehand which SLOTS come. */
final class Draws {
    private Draws() {
    }

    static int next(int state) {
        return (int) ((state * 1664525L + 1013904223L) & 0xFFFFFFFFL);
    }

    static int of(int state, int m) {
        return (int) (((next(state) & 0xFFFFFFFFL) / 256) % m);
    }

    /** The least STATE from 0 on, by which the next DRAWS of m are these. */
    static int stateFor(int m, int... slots) {
        for (int start = 0; start < 100000000; start++) {
            int state = start;
            int right = 0;
            while (right < slots.length && of(state, m) == slots[right]) {
                state = next(state);
                right++;
            }
            if (right == slots.length) {
                return start;
            }
        }
        throw new IllegalStateException("no STATE has such DRAWS");
    }

    /** The least STATE from 0 on, by which of the next n DRAWS of m so many are alone, so many SLOTS have more. */
    static int stateByCounts(int m, int n, int singles, int clashes) {
        for (int start = 0; start < 100000000; start++) {
            int[] in = new int[m];
            int state = start;
            for (int i = 0; i < n; i++) {
                in[of(state, m)]++;
                state = next(state);
            }
            int alone = 0;
            int more = 0;
            for (int number : in) {
                alone += number == 1 ? 1 : 0;
                more += number > 1 ? 1 : 0;
            }
            if (alone == singles && more == clashes) {
                return start;
            }
        }
        throw new IllegalStateException("no STATE has such DRAWS");
    }
}
