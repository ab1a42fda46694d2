/** All that the looking calls show of a machine, as one number. */
final class Seen {
    private static final int MOST_GRANULES = 2048;

    private Seen() {
    }

    static long all(SweptGrants m) {
        long sum = m.place();
        for (int what = 0; what < 16; what++) {
            sum = sum * 31 + m.count(what) * 7L + m.heap(what);
            for (int t = 0; t < 8; t++) {
                sum = sum * 31 + m.thread(t, what) * 7L + m.compartment(t, what);
                for (int k = 0; k <= 16; k++) {
                    sum = sum * 31 + m.register(t, k, what);
                }
            }
        }
        for (int g = 0; g < MOST_GRANULES && m.tag(g) >= 0; g++) {
            sum = sum * 31 + m.tag(g);
            for (int i = 0; i < 4; i++) {
                sum = sum * 31 + m.memory(16 * g + 4 * i, 4);
            }
        }
        return sum;
    }
}
