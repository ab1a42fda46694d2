/** Promises 5, 10 and 13: quarantine, the sweeper, and threads that sleep for it. */
public final class SweepTest {
    public static void main(String[] args) {
        asked();
        fourTimes();
        askedForNothing();
        askedWhileUnderWay();
        granulesByFour();
        memoryIsSwept();
        kindsThatStay();
        registersOfOthers();
        framesAreSwept();
        freedMeanwhile();
        freedInTheLastStep();
        freedBehindTheSweeper();
        allocSleeps();
        allocAsksForOneOnly();
        allocInTheLastStep();
        allocOfMany();
        allocInVain();
        noSleepWithoutNeed();
        lastObjectIsErased();
        Check.end();
    }

    private static SweptGrants served(Code code, int size) {
        Image image = new Image();
        image.part(4).services().export(0, 1).code(code);
        return image.thread(0, 0, 1, 4, 4).boot(size);
    }

    private static Code freed(int bytes) {
        return new Code().number(10, bytes).go(0).put(Asm.copy(8, 10)).go(1);
    }

    /** 1024 bytes have 64 granules: 16 steps. */
    private static void asked() {
        SweptGrants m = served(freed(16).go(6).put(Asm.jal(0, 0)), 1);
        m.run(11);
        Check.due("not yet", m.heap(6), -1);
        m.run(1);
        Check.due("begun", m.heap(6), 0);
        Check.due("c10", m.register(0, 10, 0), 0);
        for (int i = 1; i < 16; i++) {
            m.run(1);
            Check.due("next", m.heap(6), 4 * i);
            Check.due("quarantine", m.heap(3), 16);
            Check.due("revoked", m.tag(m.heap(0) / 16), 2);
            Check.due("sweeps", m.heap(5), 0);
        }
        m.run(1);
        Check.due("ended", m.heap(6), -1);
        Check.due("sweeps", m.heap(5), 1);
        Check.due("quarantine", m.heap(3), 0);
        Check.due("free", m.heap(4), 1024 - m.heap(0));
        Check.due("not revoked", m.tag(m.heap(0) / 16), 0);
        m.run(50);
        Check.due("no other", m.heap(6), -1);
        Check.due("sweeps", m.heap(5), 1);
    }

    /** Nobody asks: it begins when a quarter of the heap is in quarantine. */
    private static void fourTimes() {
        int heap = served(freed(16).put(Asm.jal(0, 0)), 1).heap(4);
        int quarter = (heap / 4 + 15) / 16 * 16;
        SweptGrants m = served(freed(quarter).put(Asm.jal(0, 0)), 1);
        m.run(8);
        Check.due("not begun", m.heap(6), -1);
        m.run(1);
        Check.due("begun in that step", m.heap(6), 0);
        m.run(16);
        Check.due("ended", m.heap(5), 1);
        m = served(freed(quarter - 16).put(Asm.jal(0, 0)), 1);
        m.run(100);
        Check.due("less than a quarter", m.heap(6), -1);
        Check.due("sweeps", m.heap(5), 0);
        Check.due("quarantine", m.heap(3), quarter - 16);
        exactQuarter();
    }

    /** The globals are chosen so that the heap is a multiple of 64. */
    private static void exactQuarter() {
        for (int globals = 0; globals < 4; globals++) {
            for (int less = 0; less <= 1; less++) {
                Image probe = quarterImage(globals, 16);
                int heap = probe.boot(1).heap(4);
                if (heap % 64 == 0) {
                    SweptGrants m = quarterImage(globals, heap / 4 - 16 * less).boot(1);
                    m.run(9);
                    Check.due("a quarter less " + less, m.heap(6), less == 0 ? 0 : -1);
                }
            }
        }
    }

    private static Image quarterImage(int globals, int bytes) {
        Image image = new Image();
        image.part(globals).services().export(0, 1).code(freed(bytes).put(Asm.jal(0, 0)));
        return image.thread(0, 0, 0, 1, 0);
    }

    private static void askedForNothing() {
        SweptGrants m = served(new Code().go(6).number(10, 16).go(0).go(1).put(Asm.jal(0, 0)), 1);
        m.run(60);
        Check.due("quarantine", m.heap(3), 16);
        Check.due("forgotten", m.heap(6), -1);
        Check.due("sweeps", m.heap(5), 0);
    }

    /** Asked for once more while one is under way: the next begins a step behind its end. */
    private static void askedWhileUnderWay() {
        Code code = new Code().number(10, 16).go(0).put(Asm.copy(8, 10)).number(10, 16).go(0)
            .put(Asm.copy(9, 10), Asm.copy(10, 8)).go(1).go(6).put(Asm.copy(10, 9)).go(1).go(6)
            .put(Asm.jal(0, 0));
        SweptGrants m = served(code, 1);
        m.run(19);
        Check.due("begun", m.heap(6), 0);
        m.run(16);
        Check.due("ended", m.heap(5), 1);
        Check.due("none under way", m.heap(6), -1);
        Check.due("the later one stays", m.heap(3), 16);
        Check.due("granule of the first", m.tag(m.heap(0) / 16), 0);
        Check.due("granule of the second", m.tag(m.heap(0) / 16 + 1), 2);
        m.run(1);
        Check.due("the next one", m.heap(6), 0);
        m.run(16);
        Check.due("ended", m.heap(5), 2);
        Check.due("quarantine", m.heap(3), 0);
        m.run(40);
        Check.due("no more", m.heap(5), 2);
    }

    private static void granulesByFour() {
        SweptGrants m = served(freed(16).go(6).put(Asm.jal(0, 0)), 32);
        m.run(12);
        m.run(511);
        Check.due("last four", m.heap(6), 2044);
        Check.due("sweeps", m.heap(5), 0);
        m.run(1);
        Check.due("sweeps", m.heap(5), 1);
    }

    private static void memoryIsSwept() {
        Code code = new Code().number(10, 64).go(0).put(Asm.storeCap(3, 10, 0),
            Asm.storeCap(2, 10, -16), Asm.storeCap(10, 10, 32), Asm.move(6, 10, 20),
            Asm.narrow(6, 6, 4), Asm.storeCap(3, 6, 16), Asm.storeCap(3, 3, 32)).go(1).go(6)
            .put(Asm.jal(0, 0));
        SweptGrants m = served(code, 1);
        m.run(18);
        int globals = m.compartment(0, 2) / 16;
        int stack = m.thread(0, 7) / 16 + 3;
        int object = m.heap(0) / 16 + 2;
        int steps = 0;
        Check.due("begun", m.heap(6), 0);
        while (m.heap(6) >= 0 && steps < 20) {
            int next = m.heap(6);
            Check.due("in globals", m.tag(globals), globals < next ? 0 : 1);
            Check.due("inside it", m.tag(globals + 1), globals + 1 < next ? 0 : 1);
            Check.due("in the stack", m.tag(stack), stack < next ? 0 : 1);
            Check.due("in itself", m.tag(object), object < next ? 2 : 3);
            m.run(1);
            steps++;
        }
        Check.due("steps", steps, 16);
        Check.due("others stay", m.tag(globals + 2), 1);
        Check.due("imports stay", m.tag(m.compartment(0, 1) / 16), 1);
        Check.due("bytes stay", m.memory(globals * 16, 4), m.heap(0));
    }

    /** Sealed ones of a freed object go too; a SEAL whose base is such a number stays. */
    private static void kindsThatStay() {
        Image image = new Image();
        Code code = new Code().number(10, 16).go(0).take(6, 9).put(Asm.derive(4, 7, 10, 6),
            Asm.storeCap(3, 7, 0), Asm.storeCap(3, 6, 16), Asm.copy(8, 7), Asm.copy(9, 6)).go(1)
            .go(6).put(Asm.loadCap(12, 3, 0), Asm.loadCap(13, 3, 16), Asm.jal(0, 0));
        image.part(2).services().grant(Image.SEAL, 224, 16).export(0, 1).code(code);
        SweptGrants m = image.thread(0, 0, 0, 1, 0).boot(1);
        Check.due("heap", m.heap(0) > 232, true);
        m.run(15);
        Check.due("c8 is sealed", m.register(0, 8, 4), 232);
        Check.due("c8", m.register(0, 8, 5), 0);
        Check.due("c9", m.register(0, 9, 5), 1);
        m.run(5);
        Check.due("loaded", m.register(0, 12, 5), 0);
        Check.due("loaded SEAL", m.register(0, 13, 5), 1);
        m.run(20);
        Check.due("swept", m.tag(m.compartment(0, 2) / 16), 0);
        Check.due("SEAL in memory", m.tag(m.compartment(0, 2) / 16 + 1), 1);
        sealWithBaseInHeap();
    }

    /** The object lies at 240, which is a type too: the SEAL from 240 on is not filtered. */
    private static void sealWithBaseInHeap() {
        for (int globals = 0; globals < 8; globals++) {
            Image image = new Image();
            image.part(globals).export(0, 1).grant(Image.SERVICE, 0, 0).grant(Image.SERVICE, 1, 0)
                .grant(Image.SEAL, 232, 8).grant(Image.SERVICE, 6, 0).code(new Code().number(10, 16).go(0).put(Asm.copy(8, 10))
                .take(9, 2).put(Asm.storeCap(2, 9, -16), Asm.storeCap(2, 8, -32),
                Asm.copy(10, 8)).go(1).go(3).put(Asm.jal(0, 0)));
            SweptGrants m = image.thread(0, 0, 0, 2, 0).boot(1);
            if (m.heap(0) == 240) {
                m.run(14);
                Check.due("base of the object", m.register(0, 8, 1), 240);
                Check.due("its tag", m.register(0, 8, 5), 0);
                Check.due("base of the SEAL", m.register(0, 9, 1), 240);
                Check.due("its tag", m.register(0, 9, 5), 1);
                m.run(20);
                Check.due("sweeps", m.heap(5), 1);
                Check.due("the SEAL's tag in memory", m.tag(m.thread(0, 7) / 16 + 1), 1);
                Check.due("the object's tag in memory", m.tag(m.thread(0, 7) / 16), 0);
                Check.due("the SEAL's tag", m.register(0, 9, 5), 1);
                return;
            }
        }
        Check.due("a heap at 240", 0, 1);
    }

    /** Thread 1 has the object from the globals; thread 0 frees it. */
    private static Image sharing(int priority) {
        Image image = new Image();
        Code code = new Code().number(10, 16).go(0).put(Asm.storeCap(3, 10, 0), Asm.copy(8, 10))
            .go(2).put(Asm.copy(10, 8)).go(1).go(2).put(Asm.jal(0, 0));
        int entry = code.here();
        code.put(Asm.loadCap(12, 3, 0), Asm.loadCap(13, 3, 0), Asm.loadCap(4, 3, 0), Asm.jal(0, 0));
        image.part(1).services().export(0, 1).export(entry, 1).code(code);
        return image.thread(0, 0, 1, 1, 0).thread(0, 1, priority, 1, 0);
    }

    private static void registersOfOthers() {
        SweptGrants m = sharing(1).boot(2);
        m.run(10);
        Check.due("yielded", m.count(1), -1);
        m.run(50);
        Check.due("thread 1 has it", m.register(1, 12, 5), 1);
        m.run(4);
        Check.due("freed", m.heap(3), 16);
        Check.due("thread 1 is not current", m.register(1, 12, 5), 1);
        m.run(3);
        Check.due("yielded", m.count(1), -1);
        Check.due("not yet", m.register(1, 12, 5), 1);
        m.run(1);
        Check.due("current", m.count(1), 1);
        for (int k : new int[] {4, 12, 13}) {
            Check.due("filtered", m.register(1, k, 5), 0);
            Check.due("base stays", m.register(1, k, 1), m.heap(0));
        }
        sweptWhileAsleep();
    }

    /** A thread that sleeps all the while has its registers filtered when the sweep ends. */
    private static void sweptWhileAsleep() {
        Image image = new Image();
        Code code = new Code().number(10, 16).go(0).put(Asm.storeCap(3, 10, 0), Asm.copy(8, 10))
            .number(10, 30).go(3).put(Asm.copy(10, 8)).go(1).go(6).put(Asm.jal(0, 0));
        int entry = code.here();
        code.put(Asm.loadCap(8, 3, 0)).number(10, 5000).go(3).put(Asm.jal(0, 0));
        image.part(1).services().export(0, 1).export(entry, 1).code(code);
        SweptGrants m = image.thread(0, 0, 2, 1, 0).thread(0, 1, 1, 1, 0).boot(1);
        m.run(18);
        Check.due("asleep", m.thread(1, 0), 1);
        Check.due("has it", m.register(1, 8, 5), 1);
        m.run(200);
        Check.due("asleep", m.thread(1, 0), 1);
        Check.due("sweeps", m.heap(5), 1);
        Check.due("filtered", m.register(1, 8, 5), 0);
    }

    /** The caller keeps the object in c8, c9; the callee frees it, and it is swept before it returns. */
    private static void framesAreSwept() {
        for (int sweeps = 0; sweeps <= 1; sweeps++) {
            Image image = new Image();
            image.part(1).services().grant(Image.EXPORT, 1, 0).export(0, 1).code(new Code()
                .number(10, 16).go(0).put(Asm.copy(8, 10), Asm.copy(9, 10), Asm.copy(3, 10)).go(9)
                .put(Asm.jal(0, 0)));
            Code callee = new Code().go(1);
            if (sweeps == 1) {
                callee.go(6);
            }
            callee.number(10, sweeps == 1 ? 60 : 3).go(3).put(Asm.addi(1, 0, 0), 0);
            image.part(1).services().export(0, 1).code(callee);
            SweptGrants m = image.thread(0, 0, 0, 1, 2).boot(1);
            m.run(100);
            Check.due("back", m.thread(0, 1), 0);
            Check.due("by a fault", m.thread(0, 4), 6);
            Check.due("sweeps", m.heap(5), sweeps);
            for (int k : new int[] {3, 8, 9}) {
                Check.due("c" + k, m.register(0, k, 5), 0);
                Check.due("its base", m.register(0, k, 1), m.heap(0));
            }
            Check.due("stack stays", m.register(0, 2, 5), 1);
            Check.due("PCC stays", m.register(0, 16, 5), 1);
        }
    }

    /** What is freed while a sweep is under way waits for the next one. */
    private static void freedMeanwhile() {
        Code code = new Code().number(10, 16).go(0).put(Asm.copy(8, 10)).number(10, 32).go(0)
            .put(Asm.copy(9, 10), Asm.copy(10, 8)).go(1).go(6).put(Asm.storeCap(3, 9, 0),
            Asm.copy(10, 9)).go(1).put(Asm.jal(0, 0));
        SweptGrants m = served(code, 1);
        m.run(19 + 16);
        Check.due("ended", m.heap(5), 1);
        Check.due("quarantine", m.heap(3), 32);
        Check.due("free", m.heap(4), 1024 - m.heap(0) - 32);
        Check.due("revoked", m.tag(m.heap(0) / 16 + 1), 2);
        m.run(40);
        Check.due("nobody asks", m.heap(5), 1);
    }

    /** It was not in quarantine when the sweep began that ends in this very step. */
    private static void freedInTheLastStep() {
        Code code = new Code().number(10, 16).go(0).put(Asm.copy(8, 10)).number(10, 16).go(0)
            .put(Asm.copy(9, 10), Asm.copy(10, 8)).go(1).go(6);
        for (int i = 0; i < 12; i++) {
            code.put(Asm.addi(0, 0, 0));
        }
        SweptGrants m = served(code.put(Asm.copy(10, 9)).go(1).put(Asm.jal(0, 0)), 1);
        m.run(19 + 15);
        Check.due("last four", m.heap(6), 60);
        Check.due("the second is an object", m.heap(1), 1);
        m.run(1);
        Check.due("ended", m.heap(5), 1);
        Check.due("freed", m.heap(1), 0);
        Check.due("in quarantine", m.heap(3), 16);
        Check.due("granule of the first", m.tag(m.heap(0) / 16), 0);
        Check.due("granule of the second", m.tag(m.heap(0) / 16 + 1), 2);
        Check.due("c9", m.register(0, 9, 5), 0);
    }

    /** The second object lies in four granules of globals and is freed at some step of the sweep. */
    private static void freedBehindTheSweeper() {
        for (int nops = 0; nops < 12; nops++) {
            Code code = new Code().number(10, 16).go(0).put(Asm.copy(8, 10)).number(10, 16).go(0)
                .put(Asm.copy(9, 10), Asm.copy(10, 8));
            for (int i = 0; i < 4; i++) {
                code.put(Asm.storeCap(3, 9, 16 * i));
            }
            code.go(1).go(6);
            for (int i = 0; i < nops; i++) {
                code.put(Asm.addi(0, 0, 0));
            }
            SweptGrants m = served(code.put(Asm.copy(10, 9)).go(1).put(Asm.jal(0, 0)), 1);
            m.run(code.here() - 2);
            int next = m.heap(6);
            Check.due("step", next, 4 * (nops + 3));
            m.run(60);
            Check.due("sweeps", m.heap(5), 1);
            int globals = m.compartment(0, 2) / 16;
            for (int g = globals; g < globals + 4; g++) {
                Check.due("granule " + g + " at " + next, m.tag(g), g < next ? 1 : 0);
            }
        }
    }

    /**
     * Thread 1 frees most of the heap at 24, so that a sweep begins; thread 0 asks for room at the
     * next step, or one later, and sleeps; then thread 1 frees the rest. No other sweep is due.
     */
    private static void allocAsksForOneOnly() {
        for (int steps = 17; steps <= 18; steps++) {
            int heap = twoFrees(steps, 16).heap(4);
            SweptGrants m = twoFrees(steps, heap - 16);
            m.run(24);
            Check.due("begun", m.heap(6), 0);
            m.run(steps - 16);
            Check.due("sleeps", m.thread(0, 0), 1);
            Check.due("for no time", m.thread(0, 6), -1);
            m.run(40 - 24 - (steps - 16));
            Check.due("ended", m.heap(5), 1);
            Check.due("has it", m.register(0, 10, 1), m.heap(0));
            Check.due("in quarantine", m.heap(3), 16);
            m.run(60);
            Check.due("no other begins", m.heap(6), -1);
            Check.due("sweeps", m.heap(5), 1);
        }
    }

    /** c10 is 2 behind a WAIT whose time is over: so many bytes thread 0 asks for. */
    private static SweptGrants twoFrees(int steps, int bytes) {
        Code code = new Code().take(8, 0).put(Asm.copy(10, 3)).number(12, steps).go(4)
            .put(Asm.jalr(1, 8, 0), Asm.jal(0, 0));
        int entry = code.here();
        code.number(10, bytes).go(0).put(Asm.copy(8, 10)).number(10, 16).go(0).put(Asm.copy(9, 10),
            Asm.copy(10, 8)).go(1).put(Asm.copy(10, 9)).go(1).put(Asm.jal(0, 0));
        Image image = new Image();
        image.part(1).services().export(0, 1).export(entry, 1).code(code);
        return image.thread(0, 0, 2, 1, 0).thread(0, 1, 1, 1, 0).boot(1);
    }

    private static int wholeHeap(int words) {
        Code code = new Code();
        for (int i = 0; i < words; i++) {
            code.put(Asm.jal(0, 0));
        }
        return served(code, 1).heap(4);
    }

    /** All of the heap is freed, and asked for again. */
    private static void allocSleeps() {
        int heap = wholeHeap(17);
        Code code = new Code().number(10, heap - 16).go(0).put(Asm.copy(8, 10)).go(1)
            .number(10, heap).go(0).put(Asm.addi(6, 0, 1), Asm.jal(0, 0), 0);
        SweptGrants m = served(code, 1);
        m.run(14);
        Check.due("heap", m.heap(3), heap - 16);
        Check.due("sleeps", m.thread(0, 0), 1);
        Check.due("for no time", m.thread(0, 6), -1);
        Check.due("under way since FREE", m.heap(6), 20);
        Check.due("c10 till then", m.register(0, 10, 5), 0);
        Check.due("current", m.count(1), 0);
        m.run(10);
        Check.due("sleeps", m.thread(0, 0), 1);
        Check.due("none runs", m.count(1), -1);
        m.run(1);
        Check.due("ended", m.heap(5), 1);
        Check.due("ready in that step", m.thread(0, 0), 0);
        Check.due("has it in that step", m.register(0, 10, 2), 1024);
        Check.due("tag", m.register(0, 10, 5), 1);
        Check.due("objects", m.heap(1), 1);
        Check.due("current", m.count(1), -1);
        Check.due("not run", m.thread(0, 5), 14);
        m.run(1);
        Check.due("runs in the next", m.register(0, 6, 0), 1);
        Check.due("c8 was filtered", m.register(0, 8, 5), 0);
        asksForOne();
    }

    /** Little is in quarantine, so no sweep is under way: ALLOC asks. */
    private static void asksForOne() {
        int heap = wholeHeap(17);
        Code code = new Code().number(10, 16).go(0).put(Asm.copy(8, 10)).go(1)
            .number(10, heap).go(0).put(Asm.addi(6, 0, 1), Asm.jal(0, 0), 0);
        SweptGrants m = served(code, 1);
        m.run(13);
        Check.due("none under way", m.heap(6), -1);
        m.run(1);
        Check.due("begun", m.heap(6), 0);
        Check.due("sleeps", m.thread(0, 0), 1);
        m.run(15);
        Check.due("sleeps", m.thread(0, 0), 1);
        m.run(1);
        Check.due("ready", m.thread(0, 0), 0);
        Check.due("has it", m.register(0, 10, 2), 1024);
        m.run(40);
        Check.due("one sweep", m.heap(5), 1);
    }

    /** It goes to sleep in the step in which the sweep ends: it stays the current one. */
    private static void allocInTheLastStep() {
        int heap = wholeHeap(29);
        Code code = new Code().number(10, 16).go(0).put(Asm.copy(8, 10)).go(1).go(6);
        for (int i = 0; i < 11; i++) {
            code.put(Asm.addi(0, 0, 0));
        }
        code.number(10, heap).go(0).put(Asm.jal(0, 0));
        SweptGrants m = served(code, 1);
        m.run(12 + 15);
        Check.due("last four", m.heap(6), 60);
        m.run(1);
        Check.due("ended", m.heap(5), 1);
        Check.due("ready", m.thread(0, 0), 0);
        Check.due("has it", m.register(0, 10, 2), 1024);
        Check.due("current", m.count(1), 0);
        m.run(1);
        Check.due("times", m.count(5), 1);
    }

    /** Three threads sleep for one sweep: they are served by their numbers, not as they asked. */
    private static void allocOfMany() {
        int heap = manyImage(16).boot(2).heap(4);
        SweptGrants m = manyImage(heap - 16).boot(2);
        m.run(14 + 15);
        Check.due("under way", m.heap(6), 4 * 20);
        for (int t = 0; t < 3; t++) {
            Check.due("sleeps", m.thread(t, 0), 1);
        }
        m.run(12);
        Check.due("sweeps", m.heap(5), 1);
        for (int t = 0; t < 3; t++) {
            Check.due("ready", m.thread(t, 0), 0);
            Check.due("base", m.register(t, 10, 1), m.heap(0) + 192 * t);
            Check.due("tag", m.register(t, 10, 5), 1);
        }
        Check.due("objects", m.heap(1), 3);
    }

    /** Thread 3 is given so much, frees it and sleeps; then the others want some, 1, 2, 0. */
    private static Image manyImage(int bytes) {
        Image image = new Image();
        Code code = new Code().number(10, bytes).go(0).put(Asm.copy(8, 10)).go(1)
            .number(10, 5000).go(2).put(Asm.jal(0, 0));
        int entry = code.here();
        code.number(10, 16 * 12).go(0).put(Asm.jal(0, 0));
        image.part(0).grant(Image.SERVICE, 0, 0).grant(Image.SERVICE, 1, 0)
            .grant(Image.SERVICE, 3, 0).export(0, 1).export(entry, 1).code(code);
        return image.thread(0, 1, 1, 1, 0).thread(0, 1, 3, 1, 0).thread(0, 1, 2, 1, 0)
            .thread(0, 0, 7, 1, 0);
    }

    /** It is tried once more, and not again. */
    private static void allocInVain() {
        int heap = wholeHeap(22);
        Code code = new Code().number(10, 16).go(0).put(Asm.copy(8, 10)).number(10, 16).go(0)
            .put(Asm.copy(10, 8)).go(1).number(10, heap).go(0).put(Asm.jal(0, 0), 0);
        SweptGrants m = served(code, 1);
        m.run(20);
        Check.due("sleeps", m.thread(0, 0), 1);
        m.run(16);
        Check.due("sweeps", m.heap(5), 1);
        Check.due("ready", m.thread(0, 0), 0);
        for (int what = 0; what < 6; what++) {
            Check.due("NULL", m.register(0, 10, what), 0);
        }
    }

    /** Something is in quarantine, but there is room, or no number of bytes that could be. */
    private static void noSleepWithoutNeed() {
        int heap = wholeHeap(17);
        for (int bytes : new int[] {0, 1, 64, heap + 1, -1}) {
            Code code = new Code().number(10, 16).go(0).put(Asm.copy(8, 10)).go(1)
                .number(10, bytes).go(0).put(Asm.addi(6, 0, 1), Asm.jal(0, 0), 0);
            SweptGrants m = served(code, 1);
            m.run(14);
            Check.due("ready", m.thread(0, 0), 0);
            Check.due("no sweep", m.heap(6), -1);
            Check.due("tag", m.register(0, 10, 5), bytes > 0 && bytes <= 64 ? 1 : 0);
            Check.due("behind the quarantine", m.register(0, 10, 1),
                bytes > 0 && bytes <= 64 ? m.heap(0) + 16 : 0);
            m.run(1);
            Check.due("goes on", m.register(0, 6, 0), 1);
        }
    }

    /** The object that ends where memory ends is freed, swept and given again. */
    private static void lastObjectIsErased() {
        int heap = wholeHeap(19);
        Code code = new Code().number(10, heap).go(0).put(Asm.copy(8, 10))
            .number(6, heap).put(Asm.derive(0, 7, 8, 6), Asm.storeCap(7, 3, -16)).go(1)
            .number(10, heap).go(0).put(Asm.jal(0, 0));
        SweptGrants m = served(code, 1);
        m.run(13);
        Check.due("tag of the last granule", m.tag(63), 3);
        Check.due("its bytes", m.memory(1008, 4), m.compartment(0, 2));
        m.run(40);
        Check.due("sweeps", m.heap(5), 1);
        Check.due("given again", m.heap(2), heap);
        Check.due("tag of the last granule", m.tag(63), 0);
        Check.due("its bytes", m.memory(1008, 4), 0);
    }
}
