/** A call that is refused changes nothing: promises 2, 3, 5 and 6, and all calls that look. */
public final class RefusedTest {
    private static final int[] FAR = {Integer.MIN_VALUE, -5001, -257, -1, 257, 5001, 65536,
        Integer.MAX_VALUE};

    public static void main(String[] args) {
        SweptGrants busy = busy();
        feeds(busy);
        boots(busy);
        runs(busy);
        inputs(busy);
        looks(busy);
        boots(new SweptGrants(1));
        runs(new SweptGrants(1));
        inputs(new SweptGrants(1));
        looks(new SweptGrants(1));
        inputsOfNothing(new SweptGrants(1));
        Check.end();
    }

    /** Behind some steps, with input, output, an object, a sweep under way and a tape. */
    private static SweptGrants busy() {
        Image image = new Image();
        image.part(2).services().grant(Image.DEVICE, 3, 0).export(0, 1).code(new Code().take(4, 9)
            .put(Asm.storeWord(4, 4, 0), Asm.loadWord(6, 4, 4), Asm.addi(10, 0, 16)).go(0)
            .put(Asm.storeCap(3, 10, 0)).go(1).go(6).number(10, 100).go(0).put(Asm.copy(8, 10))
            .put(Asm.jal(0, 0)));
        SweptGrants m = image.thread(0, 0, 3, 2, 2).thread(0, 0, 3, 1, 1).boot(2);
        m.input(9);
        m.run(25);
        m.feed(1, 2, 3, 4, 5);
        Check.due("a sweep is under way", m.heap(6) > 0, true);
        Check.due("objects", m.heap(1), 1);
        Check.due("output", m.count(7), 1);
        Check.due("input", m.count(8), 1);
        Check.due("tape", m.count(6), 20);
        return m;
    }

    private static void same(String name, SweptGrants m, long before) {
        Check.due(name + " changes nothing", Seen.all(m), before);
    }

    private static void feeds(SweptGrants m) {
        SweptGrants full = busy();
        while (full.count(6) < 5000) {
            Check.due("feed", full.feed(0, 0, 0, 0, 0), true);
        }
        long before = Seen.all(full);
        Check.due("feed too much", full.feed(-1, -1, -1, -1, -1), false);
        same("feed", full, before);
        Check.due("the tape is as it was", full.boot(20), 2);
        Check.due("its first byte", full.place(), 0);
        Check.due("another one", m.count(6), 20);
    }

    private static void boots(SweptGrants m) {
        long before = Seen.all(m);
        for (int n : FAR) {
            Check.due("boot " + n, m.boot(n), -1);
            same("boot " + n, m, before);
        }
        Check.due("one more than there are", m.boot(m.count(6) + 1), -1);
        same("boot", m, before);
    }

    private static void runs(SweptGrants m) {
        long before = Seen.all(m);
        for (int n : FAR) {
            boolean right = n >= 0 && n <= 5000;
            if (!right || m.count(9) == 0) {
                Check.due("run " + n, m.run(n), right ? 0 : -1);
                same("run " + n, m, before);
            }
        }
        Check.due("run 0", m.run(0), 0);
        same("run 0", m, before);
    }

    private static void inputs(SweptGrants m) {
        long before = Seen.all(m);
        for (int c : new int[] {-1, 256, Integer.MIN_VALUE, Integer.MAX_VALUE}) {
            Check.due("input " + c, m.input(c), false);
            same("input " + c, m, before);
        }
        while (m.count(9) == 1 && m.count(8) < 64) {
            Check.due("input", m.input(m.count(8)), true);
        }
        before = Seen.all(m);
        Check.due("input to what is full, or not booted", m.input(0), false);
        same("input", m, before);
    }

    private static void inputsOfNothing(SweptGrants m) {
        for (int c = 0; c < 256; c++) {
            Check.due("input " + c, m.input(c), false);
        }
        Check.due("bytes", m.count(8), 0);
    }

    private static void looks(SweptGrants m) {
        long before = Seen.all(m);
        for (int far : FAR) {
            for (int what = -1; what < 9; what++) {
                m.register(far, what, what);
                m.register(what, far, what);
                m.register(what, what, far);
                m.memory(far, what);
                m.memory(what, far);
                m.thread(far, what);
                m.thread(what, far);
                m.compartment(far, what);
                m.compartment(what, far);
            }
            m.tag(far);
            m.heap(far);
            m.count(far);
            Check.due("broken " + far, m.broken(far), 0);
        }
        same("looking", m, before);
    }
}
