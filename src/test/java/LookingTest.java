/** Promises 5, 8, 9, 10, 11, 13 and 14: the limits of the calls that run and look. */
public final class LookingTest {
    private static final int[] FAR = {Integer.MIN_VALUE, Integer.MAX_VALUE, -2, 1 << 28};

    public static void main(String[] args) {
        running();
        registers();
        memory();
        tags();
        threads();
        heap();
        counts();
        Check.end();
    }

    private static SweptGrants machine() {
        Image image = new Image();
        image.part(2).services().grant(Image.EXPORT, 0, 0).export(0, 3).code(new Code()
            .number(4, 0x89ABCDEF).put(Asm.storeWord(3, 4, 4), Asm.storeCap(3, 3, 16))
            .number(10, 20).go(0).number(10, 33).go(0).put(Asm.jal(0, 0)));
        return image.thread(0, 0, 4, 2, 1).boot(1);
    }

    private static void running() {
        SweptGrants m = machine();
        for (int n : new int[] {-1, 5001, Integer.MIN_VALUE, Integer.MAX_VALUE}) {
            Check.due("run " + n, m.run(n), -1);
        }
        Check.due("refused", m.count(0), 0);
        Check.due("run 0", m.run(0), 0);
        Check.due("nothing", m.count(0), 0);
        Check.due("run 1", m.run(1), 1);
        Check.due("time", m.count(0), 1);
        Check.due("run 5000", m.run(5000), 5000);
        Check.due("time", m.count(0), 5001);
        Check.due("done", m.thread(0, 5), 5001);
    }

    private static void registers() {
        SweptGrants m = machine();
        m.run(2);
        Check.due("cursor without sign", m.register(0, 4, 0), 0x89ABCDEFL);
        Check.due("PCC", m.register(0, 16, 0), 8);
        Check.due("perms", m.register(0, 3, 3), Asm.DATA);
        for (int what = -3; what < 9; what++) {
            boolean right = what >= 0 && what <= 5;
            Check.due("what " + what, m.register(0, 3, what) != -1, right);
            Check.due("of PCC " + what, m.register(0, 16, what) != -1, right);
        }
        for (int k = -3; k < 40; k++) {
            Check.due("register " + k, m.register(0, k, 5) != -1, k >= 0 && k <= 16);
        }
        for (int t = -3; t < 9; t++) {
            Check.due("thread " + t, m.register(t, 2, 5) != -1, t == 0);
        }
        for (int far : FAR) {
            Check.due("thread " + far, m.register(far, 0, 0), -1);
            Check.due("register " + far, m.register(0, far, 0), -1);
            Check.due("what " + far, m.register(0, 0, far), -1);
        }
    }

    private static void memory() {
        SweptGrants m = machine();
        m.run(4);
        int at = m.compartment(0, 2) + 4;
        Check.due("word", m.memory(at, 4), 0x89ABCDEFL);
        Check.due("halves", m.memory(at, 2), 0xCDEF);
        Check.due("halves", m.memory(at + 2, 2), 0x89AB);
        Check.due("not aligned", m.memory(at + 1, 2), 0xABCD);
        Check.due("not aligned", m.memory(at + 2, 4), 0x89AB);
        Check.due("byte", m.memory(at + 3, 1), 0x89);
        for (int n = -5; n < 20; n++) {
            boolean right = n == 1 || n == 2 || n == 4;
            Check.due("n " + n, m.memory(at, n) != -1, right);
            Check.due("last of " + n, m.memory(1024 - n, n) != -1, right);
            Check.due("beyond, by " + n, m.memory(1025 - n, n), -1);
        }
        Check.due("below", m.memory(-1, 1), -1);
        Check.due("below", m.memory(-1, 4), -1);
        for (int far : FAR) {
            Check.due("address " + far, m.memory(far, 4), -1);
            Check.due("n " + far, m.memory(0, far), -1);
        }
        Check.due("device", m.memory(0x10000000, 4), -1);
    }

    private static void tags() {
        SweptGrants m = machine();
        m.run(4);
        int globals = m.compartment(0, 2) / 16;
        Check.due("number", m.tag(globals), 0);
        Check.due("capability", m.tag(globals + 1), 1);
        Check.due("last", m.tag(63), 0);
        Check.due("behind", m.tag(64), -1);
        Check.due("below", m.tag(-1), -1);
        for (int far : FAR) {
            Check.due("granule " + far, m.tag(far), -1);
        }
    }

    private static void threads() {
        SweptGrants m = machine();
        m.run(3);
        int[] due = {0, 0, 0, 1, 0, 3, -1, m.compartment(0, 3)};
        for (int what = 0; what < due.length; what++) {
            Check.due("thread " + what, m.thread(0, what), due[what]);
        }
        Check.due("what 8", m.thread(0, 8), -1);
        Check.due("what -1", m.thread(0, -1), -1);
        for (int t = -3; t < 9; t++) {
            Check.due("thread " + t, m.thread(t, 7) != -1, t == 0);
        }
        for (int far : FAR) {
            Check.due("thread " + far, m.thread(far, 0), -1);
            Check.due("what " + far, m.thread(0, far), -1);
        }
    }

    private static void heap() {
        SweptGrants m = machine();
        int base = m.heap(0);
        int[] before = {base, 0, 0, 0, 1024 - base, 0, -1, -1, -1, -1};
        int[] after = {base, 2, 80, 0, 1024 - base - 80, 0, -1, -1, base, base + 32, -1};
        for (int what = 0; what < before.length; what++) {
            Check.due("heap " + what, m.heap(what), before[what]);
        }
        m.run(14);
        for (int what = 0; what < after.length; what++) {
            Check.due("heap " + what, m.heap(what), after[what]);
        }
        Check.due("what -1", m.heap(-1), -1);
        for (int far : FAR) {
            Check.due("what " + far, m.heap(far), -1);
        }
    }

    private static void counts() {
        SweptGrants m = machine();
        m.input(3);
        m.feed(0, 0, 0, 0, 0);
        m.run(14);
        int[] due = {14, 0, 0, 0, 2, 1, 20, 0, 1, 1};
        for (int what = 0; what < due.length; what++) {
            Check.due("count " + what, m.count(what), due[what]);
        }
        Check.due("what 10", m.count(10), -1);
        Check.due("what -1", m.count(-1), -1);
        for (int far : FAR) {
            Check.due("what " + far, m.count(far), -1);
        }
    }
}
