/** Promise 5: the services, apart from the sweeper. Import k is service k. */
public final class ServicesTest {
    private static final long MINUS_ONE = 0xFFFFFFFFL;

    public static void main(String[] args) {
        registersBehind();
        alloc();
        allocRefused();
        firstFit();
        allocErases();
        free();
        freeRefused();
        freeFilters();
        yielding();
        sleep();
        waitRefused();
        waitForTime();
        wake();
        wakeOrder();
        wakeRefused();
        wakeAtTheTime();
        numberAndRoom();
        heapOfOneGranule();
        linkBeforeService();
        Check.end();
    }

    private static void is(String name, SweptGrants m, int t, int k, long... due) {
        for (int what = 0; what < due.length; what++) {
            Check.due(name + ": c" + k + " " + what, m.register(t, k, what), due[what]);
        }
    }

    private static SweptGrants after(Code code) {
        SweptGrants m = Image.served(code);
        m.run(code.here());
        Check.due("fault", m.thread(0, 4), 0);
        return m;
    }

    private static void registersBehind() {
        for (int service = 0; service <= 8; service++) {
            Code code = new Code();
            for (int k = 4; k < 16; k++) {
                code.put(Asm.addi(k, 0, k));
            }
            SweptGrants m = after(code.go(service));
            String name = "service " + service;
            Check.due(name + ": services", m.count(4), 1);
            Check.due(name + ": done", m.thread(0, 5), 15);
            Check.due(name + ": cursor", m.register(0, 16, 0), 60);
            is(name, m, 0, 8, 8, 0, 0, 0, 0, 0);
            is(name, m, 0, 9, 9, 0, 0, 0, 0, 0);
            Check.due(name + ": stack", m.register(0, 2, 5), 1);
            Check.due(name + ": globals", m.register(0, 3, 5), 1);
            for (int k : new int[] {0, 1, 4, 5, 6, 7, 11, 12, 13, 14, 15}) {
                is(name, m, 0, k, 0, 0, 0, 0, 0, 0);
            }
        }
    }

    private static void alloc() {
        int[][] cases = {{1, 16}, {16, 16}, {17, 32}, {100, 112}};
        for (int[] one : cases) {
            SweptGrants m = after(new Code().number(10, one[0]).go(0));
            int base = m.heap(0);
            is("alloc " + one[0], m, 0, 10, base, base, base + one[1], Asm.DATA, 0, 1);
            Check.due("objects", m.heap(1), 1);
            Check.due("bytes", m.heap(2), one[1]);
            Check.due("left", m.heap(4), 2048 - base - one[1]);
            Check.due("place", m.heap(8), base);
            Check.due("no other", m.heap(9), -1);
        }
    }

    private static void allocRefused() {
        int heap = after(new Code().number(10, 1).go(0)).heap(4) + 16;
        for (int bytes : new int[] {0, -1, heap + 1, Integer.MIN_VALUE, Integer.MAX_VALUE}) {
            SweptGrants m = after(new Code().number(10, bytes).go(0));
            is("alloc " + bytes, m, 0, 10, 0, 0, 0, 0, 0, 0);
            Check.due("objects", m.heap(1), 0);
            Check.due("state", m.thread(0, 0), 0);
        }
        for (int bytes : new int[] {heap, heap - 1, heap - 15}) {
            SweptGrants m = after(new Code().number(10, bytes).go(0));
            Check.due("all of it", m.heap(2), heap);
            Check.due("nothing left", m.heap(4), 0);
            Check.due("top", m.register(0, 10, 2), 2048);
        }
        SweptGrants m = after(new Code().number(10, 16).go(0).number(10, 0).go(0));
        m = after(new Code().number(10, 16).go(0).number(10, m.heap(4) + 16).go(0));
        is("no room, nothing in quarantine", m, 0, 10, 0, 0, 0, 0, 0, 0);
        Check.due("state", m.thread(0, 0), 0);
        Check.due("objects", m.heap(1), 1);
    }

    /** Objects of 2, 1, 3 granules, then the middle one goes and is swept. */
    private static void firstFit() {
        Code code = new Code().number(10, 32).go(0).number(10, 16).go(0).put(Asm.copy(8, 10))
            .number(10, 48).go(0).put(Asm.copy(10, 8)).go(1).go(6);
        SweptGrants m = Image.served(code.put(Asm.jal(0, 0)));
        m.run(code.here() + 200);
        int base = m.heap(0);
        Check.due("sweeps", m.heap(5), 1);
        Check.due("objects", m.heap(1), 2);
        Check.due("first", m.heap(8), base);
        Check.due("second", m.heap(9), base + 48);
        Check.due("third", m.heap(10), -1);
        Code more = new Code().number(10, 32).go(0).number(10, 16).go(0).put(Asm.copy(8, 10))
            .number(10, 48).go(0).put(Asm.copy(10, 8)).go(1).go(6).number(8, 100)
            .put(Asm.addi(8, 8, -1), Asm.branch(1, 8, 0, -4)).number(10, 32).go(0)
            .put(Asm.copy(9, 10)).number(10, 16).go(0).put(Asm.jal(0, 0));
        m = Image.served(more);
        m.run(300);
        base = m.heap(0);
        Check.due("two do not fit", m.register(0, 9, 1), base + 96);
        Check.due("one fits", m.register(0, 10, 1), base + 32);
        for (int k = 0; k < 4; k++) {
            Check.due("place " + k, m.heap(8 + k), base + new int[] {0, 32, 48, 96}[k]);
        }
        Check.due("place 4", m.heap(12), -1);
    }

    /** Bytes and tags of an object are gone when its granules come again. */
    private static void allocErases() {
        Code code = new Code().number(10, 32).go(0).put(Asm.storeCap(10, 3, 16),
            Asm.storeWord(10, 10, 0)).go(1).go(6).number(8, 100)
            .put(Asm.addi(8, 8, -1), Asm.branch(1, 8, 0, -4));
        int before = code.here();
        SweptGrants m = Image.served(code.number(10, 32).go(0).put(Asm.jal(0, 0)));
        m.run(before + 198);
        int base = m.heap(0);
        Check.due("free", m.heap(4), 2048 - base);
        Check.due("its bytes stay", m.memory(base, 4), base);
        Check.due("its tag stays", m.tag(base / 16 + 1), 1);
        m.run(5);
        Check.due("again", m.register(0, 10, 1), base);
        Check.due("bytes", m.memory(base, 4), 0);
        Check.due("bytes", m.memory(base + 16, 4), 0);
        Check.due("tag", m.tag(base / 16 + 1), 0);
    }

    private static Code freed(int... words) {
        return new Code().number(10, 40).go(0).put(Asm.copy(8, 10)).put(words).go(1);
    }

    private static void free() {
        SweptGrants m = after(freed(Asm.move(10, 10, 999)));
        int base = m.heap(0);
        is("freed", m, 0, 10, 0, 0, 0, 0, 0, 0);
        Check.due("objects", m.heap(1), 0);
        Check.due("bytes", m.heap(2), 0);
        Check.due("quarantine", m.heap(3), 48);
        Check.due("free", m.heap(4), 2048 - base - 48);
        Check.due("no place", m.heap(8), -1);
        for (int g = -1; g <= 3; g++) {
            Check.due("granule " + g, m.tag(base / 16 + g), g >= 0 && g < 3 ? 2 : 0);
        }
        m = after(freed(Asm.addi(6, 0, 2), Asm.derive(3, 10, 10, 6)));
        is("by WRITE alone", m, 0, 10, 0, 0, 0, 0, 0, 0);
        Check.due("quarantine", m.heap(3), 48);
    }

    private static void refuses(String name, int... words) {
        SweptGrants m = after(freed(words));
        is(name, m, 0, 10, MINUS_ONE, 0, 0, 0, 0, 0);
        Check.due(name + ": objects", m.heap(1), 1);
        Check.due(name + ": quarantine", m.heap(3), 0);
        Check.due(name + ": not revoked", m.tag(m.heap(0) / 16), 0);
    }

    private static void freeRefused() {
        refuses("null", Asm.addi(10, 0, 0));
        refuses("number", Asm.addi(10, 10, 0));
        refuses("no tag", Asm.inspect(9, 10, 10));
        refuses("globals", Asm.copy(10, 3));
        refuses("stack", Asm.copy(10, 2));
        refuses("return", Asm.copy(10, 1));
        refuses("no WRITE", Asm.addi(6, 0, 0x59), Asm.derive(3, 10, 10, 6));
        refuses("other top", Asm.narrow(10, 10, 40));
        refuses("other base", Asm.move(10, 10, 16), Asm.narrow(10, 10, 32));
        refuses("inside", Asm.move(10, 10, 4), Asm.narrow(10, 10, 44));
        refuses("no places", Asm.narrow(10, 10, 0));
        SweptGrants m = after(freed().put(Asm.copy(10, 8)).go(1));
        is("once more", m, 0, 10, MINUS_ONE);
        Check.due("quarantine", m.heap(3), 48);
        Image image = new Image();
        image.part(0).services().grant(Image.SEAL, 0, 1).export(0, 1).code(new Code().number(10, 16)
            .go(0).take(6, 9).put(Asm.derive(4, 10, 10, 6)).go(1).put(Asm.jal(0, 0)));
        m = image.thread(0, 0, 0, 1, 0).boot(1);
        m.run(12);
        is("sealed", m, 0, 10, MINUS_ONE);
        Check.due("objects", m.heap(1), 1);
    }

    private static void freeFilters() {
        Code code = new Code().number(10, 16).go(0).put(Asm.copy(8, 10), Asm.copy(9, 10),
            Asm.storeCap(3, 10, 0), Asm.move(9, 9, 5)).go(1).put(Asm.loadCap(6, 3, 0),
            Asm.loadWord(7, 3, 4));
        SweptGrants m = after(code);
        int base = m.heap(0);
        is("c8", m, 0, 8, base, base, base + 16, Asm.DATA, 0, 0);
        is("c9", m, 0, 9, base + 5, base, base + 16, Asm.DATA, 0, 0);
        Check.due("tag in memory till it is swept", m.tag(m.compartment(0, 2) / 16), 1);
        is("but loaded without", m, 0, 6, base, base, base + 16, Asm.DATA, 0, 0);
        Check.due("its number", m.register(0, 7, 0), base);
    }

    private static void yielding() {
        SweptGrants m = after(new Code().number(10, 7).go(2));
        is("yield", m, 0, 10, 0, 0, 0, 0, 0, 0);
        Check.due("no current one", m.count(1), -1);
        Check.due("state", m.thread(0, 0), 0);
        m = after(new Code().number(10, 7).go(6));
        is("sweep", m, 0, 10, 0, 0, 0, 0, 0, 0);
        Check.due("current", m.count(1), 0);
    }

    private static void sleep() {
        for (int steps : new int[] {0, -1, 10001, Integer.MIN_VALUE, Integer.MAX_VALUE}) {
            SweptGrants m = after(new Code().number(10, steps).go(3));
            is("sleep " + steps, m, 0, 10, MINUS_ONE, 0, 0, 0, 0, 0);
            Check.due("state", m.thread(0, 0), 0);
            Check.due("ready at", m.thread(0, 6), -1);
        }
        for (int steps : new int[] {1, 2, 30, 10000}) {
            SweptGrants m = Image.served(new Code().number(10, steps).go(3).put(Asm.addi(6, 0, 1),
                Asm.jal(0, 0)));
            m.run(5);
            Check.due("state", m.thread(0, 0), 1);
            Check.due("ready at", m.thread(0, 6), 5 + steps);
            Check.due("current till the next step", m.count(1), 0);
            m.run(Math.min(5000, steps - 1));
            m.run(Math.max(0, steps - 1 - 5000));
            Check.due("sleeps", m.thread(0, 0), 1);
            Check.due("done", m.thread(0, 5), 5);
            Check.due("current", m.count(1), steps == 1 ? 0 : -1);
            m.run(1);
            Check.due("ready", m.thread(0, 0), 0);
            Check.due("ready at", m.thread(0, 6), -1);
            Check.due("runs in that step", m.register(0, 6, 0), 1);
            is("answer", m, 0, 10, 0, 0, 0, 0, 0, 0);
        }
    }

    private static Code waiting(int steps, int... words) {
        return new Code().put(Asm.copy(10, 3)).number(12, steps).put(words).go(4);
    }

    private static void waits(String name, long due, int steps, int... words) {
        SweptGrants m = after(waiting(steps, words));
        is(name, m, 0, 10, due, 0, 0, 0, 0, 0);
        Check.due(name + ": state", m.thread(0, 0), due == 2 ? 2 : 0);
    }

    private static void waitRefused() {
        waits("too long", MINUS_ONE, 10001);
        waits("below 0", MINUS_ONE, -1);
        waits("null", MINUS_ONE, 5, Asm.addi(10, 0, 0));
        waits("no READ", MINUS_ONE, 5, Asm.addi(6, 0, 2), Asm.derive(3, 10, 10, 6));
        waits("READ alone", 2, 5, Asm.addi(6, 0, 1), Asm.derive(3, 10, 10, 6));
        waits("sealed", MINUS_ONE, 5, Asm.copy(10, 1));
        waits("not aligned", MINUS_ONE, 5, Asm.move(10, 10, 2));
        waits("beyond", MINUS_ONE, 5, Asm.move(10, 10, 64));
        waits("below", MINUS_ONE, 5, Asm.move(10, 10, -4));
        waits("narrow", MINUS_ONE, 5, Asm.narrow(10, 10, 3));
        waits("last word", 2, 5, Asm.move(10, 10, 60));
        waits("another word", 1, 5, Asm.addi(11, 0, 1));
        waits("another word, no time", 1, 0, Asm.addi(11, 0, -1));
        waits("another word, but too long", MINUS_ONE, 10001, Asm.addi(11, 0, 1));
        waits("like word", 2, 5, Asm.addi(11, 0, -3), Asm.storeWord(3, 11, 0));
        waits("the longest", 2, 10000);
        waits("no time", 2, 0);
        SweptGrants m = Image.alone(new Code().take(10, 1).put(Asm.addi(12, 0, 5)).go(0),
            Image.SERVICE, 4, 0, Image.DEVICE, 3, 0);
        m.run(6);
        is("a device is no memory", m, 0, 10, MINUS_ONE);
    }

    private static void waitForTime() {
        for (int steps : new int[] {0, 1, 2, 17}) {
            SweptGrants m = Image.served(waiting(steps).put(Asm.addi(6, 0, 1), Asm.jal(0, 0)));
            m.run(6);
            Check.due("state", m.thread(0, 0), 2);
            Check.due("ready at", m.thread(0, 6), 6 + steps);
            is("till then", m, 0, 10, 2);
            m.run(Math.max(0, steps - 1));
            Check.due("state", m.thread(0, 0), 2);
            m.run(1);
            Check.due("ready", m.thread(0, 0), 0);
            Check.due("ready at", m.thread(0, 6), -1);
            Check.due("runs", m.register(0, 6, 0), 1);
            is("time is over", m, 0, 10, 2, 0, 0, 0, 0, 0);
        }
    }

    /** Export 0 waits at the first word, export 1 wakes so many as it is told, at that word + 4 k. */
    private static Image waiters(int most, int offset) {
        Image image = new Image();
        Code code = waiting(1000);
        code.put(Asm.copy(8, 10), Asm.jal(0, 0));
        int entry = code.here();
        code.put(Asm.move(10, 3, offset)).number(11, most).go(5).put(Asm.jal(0, 0));
        image.part(4).services().export(0, 1).export(entry, 1).code(code);
        return image;
    }

    private static void wake() {
        int[][] cases = {{0, 0, 0}, {1, 0, 1}, {2, 0, 2}, {3, 0, 2}, {-1, 0, 2}, {5, 4, 0}};
        for (int[] one : cases) {
            Image image = waiters(one[0], one[1]);
            SweptGrants m = image.thread(0, 0, 3, 1, 0).thread(0, 0, 2, 1, 0).thread(0, 1, 1, 1, 0)
                .boot(4);
            m.run(12);
            Check.due("waits", m.thread(0, 0), 2);
            Check.due("waits", m.thread(1, 0), 2);
            m.run(6);
            String name = "wake " + one[0] + " at " + one[1];
            is(name, m, 2, 10, one[2], 0, 0, 0, 0, 0);
            for (int t = 0; t < 2; t++) {
                boolean woken = t < one[2];
                Check.due(name + ": state " + t, m.thread(t, 0), woken ? 0 : 2);
                is(name, m, t, 10, woken ? 0 : 2, 0, 0, 0, 0, 0);
                Check.due(name + ": ready at", m.thread(t, 6), woken ? -1 : 1006 + 6 * t);
            }
            m.run(2);
            is(name, m, 0, 8, 0);
            Check.due(name + ": who runs", m.count(1), one[2] > 0 ? 0 : 2);
        }
    }

    /** Thread 4 wakes one of five: the greatest priority goes first, of like ones the longest. */
    private static void wakeOrder() {
        Image image = waiters(1, 0);
        SweptGrants m = image.thread(0, 0, 4, 1, 0).thread(0, 0, 5, 1, 0).thread(0, 0, 3, 1, 0)
            .thread(0, 0, 6, 1, 0).thread(0, 1, 1, 1, 0).thread(0, 0, 2, 1, 0).boot(4);
        m.run(30 + 6);
        int[] due = {2, 2, 2, 0, 0, 2};
        for (int t = 0; t < due.length; t++) {
            Check.due("greatest priority " + t, m.thread(t, 0), due[t]);
        }
        int[][] cases = {{0, 5, 1, 5, 1}, {1, 5, 0, 5, 0}, {0, 5, 1, 4, 0}, {1, 4, 0, 5, 1},
            {1, 5, 0, 4, 0}, {0, 4, 1, 5, 1}};
        for (int[] one : cases) {
            wakesOne(one[0], one[1], one[2], one[3], one[4]);
        }
    }

    /** Two threads by export and priority; that of export 0 begins to wait later. */
    private static void wakesOne(int e0, int p0, int e1, int p1, int due) {
        Code code = new Code().put(Asm.addi(10, 0, 7)).go(3);
        int early = code.here();
        code.put(Asm.copy(10, 3)).number(12, 1000).go(4).put(Asm.jal(0, 0));
        int waker = code.here();
        code.number(10, 40).go(3).number(11, 1).put(Asm.copy(10, 3)).go(5).put(Asm.jal(0, 0));
        Image image = new Image();
        image.part(1).services().export(0, 1).export(early, 1).export(waker, 1).code(code);
        SweptGrants m = image.thread(0, e0, p0, 1, 0).thread(0, e1, p1, 1, 0).thread(0, 2, 1, 1, 0)
            .boot(2);
        m.run(30);
        Check.due("waits", m.thread(0, 0), 2);
        Check.due("waits", m.thread(1, 0), 2);
        Check.due("later", m.thread(e0, 6) > m.thread(1 - e0, 6), true);
        m.run(40);
        Check.due("who is woken", m.thread(due, 0), 0);
        Check.due("still waits", m.thread(1 - due, 0), 2);
        is("how many", m, 2, 10, 1);
    }

    private static void wakeRefused() {
        int[][] cases = {
            {Asm.addi(10, 0, 0)}, {Asm.inspect(9, 10, 3)}, {Asm.copy(10, 1)}, {Asm.move(10, 3, 2)},
            {Asm.move(10, 3, 64)}, {Asm.auipc(10, 0)}};
        for (int[] words : cases) {
            SweptGrants m = after(new Code().number(11, 1).put(words).go(5));
            is("wake", m, 0, 10, MINUS_ONE, 0, 0, 0, 0, 0);
        }
        SweptGrants m = after(new Code().put(Asm.addi(6, 0, 2), Asm.derive(3, 10, 3, 6)).go(5));
        is("by WRITE alone", m, 0, 10, 0);
        m = after(new Code().put(Asm.addi(6, 0, 1), Asm.derive(3, 10, 3, 6)).go(5));
        is("by READ alone", m, 0, 10, MINUS_ONE);
        m = Image.alone(new Code().take(10, 1).go(0), Image.SERVICE, 5, 0, Image.DEVICE, 3, 0);
        m.run(5);
        is("a device is no memory", m, 0, 10, MINUS_ONE);
    }

    /** Thread 1, without interrupts, wakes at TIME 12: whose time came then is READY already. */
    private static void wakeAtTheTime() {
        for (int steps = 5; steps <= 7; steps++) {
            Code code = waiting(steps).put(Asm.jal(0, 0));
            int entry = code.here();
            code.put(Asm.copy(10, 3)).number(11, 1).go(5).put(Asm.jal(0, 0));
            Image image = new Image();
            image.part(1).services().export(0, 1).export(entry, 2).code(code);
            SweptGrants m = image.thread(0, 0, 2, 1, 0).thread(0, 1, 1, 1, 0).boot(2);
            m.run(6);
            Check.due("ready at", m.thread(0, 6), 6 + steps);
            m.run(6);
            Check.due("time", m.count(0), 12);
            is("woken before 6 + " + steps, m, 1, 10, steps == 7 ? 1 : 0, 0, 0, 0, 0, 0);
            is("answer", m, 0, 10, steps == 7 ? 0 : 2, 0, 0, 0, 0, 0);
            Check.due("ready", m.thread(0, 0), 0);
            Check.due("no time", m.thread(0, 6), -1);
        }
    }

    /** 1024 bytes, of which the stacks leave 16. */
    private static void heapOfOneGranule() {
        int[][] cases = {{0, 0}, {1, 1}, {16, 1}, {17, 0}, {32, 0}, {-1, 0}};
        for (int[] one : cases) {
            Code code = new Code().number(10, one[0]).go(0).put(Asm.copy(8, 10))
                .put(Asm.addi(10, 0, 1)).go(0).put(Asm.copy(9, 10)).go(8).put(Asm.jal(0, 0));
            Image image = new Image();
            image.part(0).services().export(0, 1).code(code);
            image.thread(0, 0, 1, 20, 0).thread(0, 0, 0, 30, 0);
            SweptGrants m = image.boot(1);
            String name = "one granule, " + one[0];
            Check.due(name + ": heap", m.heap(4), 16);
            m.run(14);
            is(name, m, 0, 8, one[1] * 1008, one[1] * 1008, one[1] * 1024, one[1] * Asm.DATA, 0, one[1]);
            Check.due(name + ": the second", m.register(0, 9, 5), 1 - one[1]);
            is(name + ": nothing is left", m, 0, 10, 0, 0, 0, 0, 0, 0);
            Check.due(name + ": nothing is left", m.heap(4), 0);
            Check.due(name + ": objects", m.heap(1), 1);
        }
    }

    private static void numberAndRoom() {
        Image image = new Image();
        image.part(0).services().export(0, 1).code(new Code().go(7).put(Asm.copy(8, 10))
            .number(10, 33).go(0).put(Asm.copy(9, 10)).go(8).put(Asm.jal(0, 0)));
        SweptGrants m = image.thread(0, 0, 0, 1, 0).thread(0, 0, 0, 1, 0).thread(0, 0, 4, 1, 0).boot(1);
        m.run(13);
        is("number", m, 2, 8, 2, 0, 0, 0, 0, 0);
        is("room", m, 2, 10, 1024 - m.heap(0) - 48, 0, 0, 0, 0, 0);
        Check.due("room", m.heap(4), m.register(2, 10, 0));
        m = after(freed().go(8));
        is("without quarantine", m, 0, 10, 2048 - m.heap(0) - 48);
    }

    /** LINK comes to d ahead of the service. */
    private static void linkBeforeService() {
        SweptGrants m = after(new Code().put(Asm.addi(8, 0, 3)).take(5, 7).put(Asm.jalr(8, 5, 0)));
        is("link", m, 0, 8, 16, 0, m.compartment(0, 2), Asm.CODE, 3, 1);
        m = after(new Code().take(5, 7).put(Asm.jalr(12, 5, 0)));
        is("gone", m, 0, 12, 0, 0, 0, 0, 0, 0);
        m = after(new Code().take(5, 7).put(Asm.jalr(10, 5, 0)));
        is("answer", m, 0, 10, 0, 0, 0, 0, 0, 0);
    }
}
