import java.util.Arrays;

/** Promises 3 and 4: boot and the place of its fault. */
public final class BootTest {
    /** Places in the image below. */
    private static final int WORDS = 2;
    private static final int GLOBALS = 4;
    private static final int EXPORTS = 5;
    private static final int IMPORTS = 6;
    private static final int ENTRY = 7;
    private static final int MODE = 9;
    private static final int FIRST_IMPORT = 10;
    private static final int CODE = 25;
    private static final int THREAD = 33;

    public static void main(String[] args) {
        Check.due("image", boot(image()), 0);
        everyEnd();
        wrongNumbers();
        edgesThatAreRight();
        noSuch();
        behind();
        room();
        refused();
        allBeginsAnew();
        order();
        nothingIsLeft();
        Check.end();
    }

    /** One compartment with an import of each kind, and one thread. */
    private static byte[] image() {
        Image image = new Image();
        Code code = new Code().put(Asm.addi(10, 0, 5), Asm.jal(0, 0));
        image.part(2).export(1, 3)
            .grant(Image.EXPORT, 0, 0).grant(Image.SERVICE, 8, 0).grant(Image.DEVICE, 3, 0)
            .grant(Image.SEAL, 239, 16).grant(Image.GLOBALS, 0, 27).code(code);
        return image.thread(0, 0, 7, 32, 16).bytes();
    }

    private static int boot(byte[] bytes) {
        return Image.boot(new SweptGrants(2), bytes);
    }

    private static byte[] with(int at, int value) {
        byte[] bytes = image();
        bytes[at] = (byte) value;
        return bytes;
    }

    private static void fails(String name, byte[] bytes, int fault, int place) {
        SweptGrants x = new SweptGrants(2);
        Check.due(name + ": boot", Image.boot(x, bytes), fault);
        Check.due(name + ": place", x.place(), place);
        Check.due(name + ": booted", x.count(9), fault == 0 ? 1 : 0);
    }

    private static void everyEnd() {
        byte[] bytes = image();
        Check.due("length", bytes.length, THREAD + 5);
        for (int n = 0; n < bytes.length; n++) {
            fails("first " + n, Arrays.copyOf(bytes, n), 1, n);
        }
        fails("all", bytes, 0, -1);
    }

    private static void wrongNumbers() {
        int[][] cases = {
            {0, 0}, {0, 9}, {1, 0}, {1, 7},
            {WORDS, 0}, {WORDS, 201}, {GLOBALS, 33}, {EXPORTS, 9}, {IMPORTS, 17},
            {ENTRY, 2}, {MODE, 0}, {MODE, 4}, {MODE, 255},
            {FIRST_IMPORT, 5}, {FIRST_IMPORT, 255},
            {FIRST_IMPORT + 4, 9}, {FIRST_IMPORT + 5, 1},
            {FIRST_IMPORT + 7, 0}, {FIRST_IMPORT + 7, 4}, {FIRST_IMPORT + 8, 1},
            {FIRST_IMPORT + 10, 240}, {FIRST_IMPORT + 11, 0}, {FIRST_IMPORT + 11, 17},
            {FIRST_IMPORT + 14, 0}, {FIRST_IMPORT + 14, 4}, {FIRST_IMPORT + 14, 5},
            {FIRST_IMPORT + 14, 31}, {FIRST_IMPORT + 14, 28}, {FIRST_IMPORT + 14, 64},
            {THREAD + 2, 8}, {THREAD + 3, 0}, {THREAD + 3, 33}, {THREAD + 4, 17}};
        for (int[] one : cases) {
            fails(one[1] + " at " + one[0], with(one[0], one[1]), 2, one[0]);
        }
        fails("high byte of words", with(WORDS + 1, 1), 2, WORDS);
        fails("high byte of entry", with(ENTRY + 1, 1), 2, ENTRY);
    }

    private static void edgesThatAreRight() {
        int[][] cases = {
            {GLOBALS, 0}, {GLOBALS, 32}, {ENTRY, 0}, {MODE, 1}, {MODE, 2},
            {FIRST_IMPORT + 4, 0}, {FIRST_IMPORT + 7, 1}, {FIRST_IMPORT + 7, 2},
            {FIRST_IMPORT + 10, 0}, {FIRST_IMPORT + 11, 1}, {FIRST_IMPORT + 14, 1},
            {FIRST_IMPORT + 14, 2}, {FIRST_IMPORT + 14, 8}, {FIRST_IMPORT + 14, 16},
            {THREAD + 2, 0}, {THREAD + 3, 1}, {THREAD + 4, 0}};
        for (int[] one : cases) {
            fails(one[1] + " at " + one[0], with(one[0], one[1]), 0, -1);
        }
        Image closed = new Image();
        closed.part(0);
        closed.part(0).export(0, 1);
        fails("no exports", closed.thread(1, 0, 0, 1, 0).bytes(), 0, -1);
        Image most = new Image();
        for (int i = 0; i < 8; i++) {
            most.part(0).export(0, 1);
        }
        for (int i = 0; i < 6; i++) {
            most.thread(7, 0, 0, 1, 0);
        }
        fails("eight and six", most.bytes(), 0, -1);
        Image large = new Image();
        Code code = new Code();
        for (int i = 0; i < 200; i++) {
            code.put(i);
        }
        Image.Part part = large.part(0).code(code);
        for (int i = 0; i < 8; i++) {
            part.export(199, 1);
        }
        for (int i = 0; i < 16; i++) {
            part.grant(Image.EXPORT, 0, 7);
        }
        fails("200 words", large.thread(0, 7, 0, 1, 0).bytes(), 0, -1);
    }

    private static void noSuch() {
        fails("export of 1", with(FIRST_IMPORT + 1, 1), 3, FIRST_IMPORT + 1);
        fails("export of 255", with(FIRST_IMPORT + 1, 255), 3, FIRST_IMPORT + 1);
        fails("export 1", with(FIRST_IMPORT + 2, 1), 3, FIRST_IMPORT + 2);
        fails("export 255", with(FIRST_IMPORT + 2, 255), 3, FIRST_IMPORT + 2);
        fails("globals of 1", with(FIRST_IMPORT + 13, 1), 3, FIRST_IMPORT + 13);
        fails("thread of 1", with(THREAD, 1), 3, THREAD);
        fails("thread at export 1", with(THREAD + 1, 1), 3, THREAD + 1);
        fails("globals of 255", with(FIRST_IMPORT + 13, 255), 3, FIRST_IMPORT + 13);
        fails("thread of 255", with(THREAD, 255), 3, THREAD);
        fails("thread at export 255", with(THREAD + 1, 255), 3, THREAD + 1);
        fails("thread of 8", with(THREAD, 8), 3, THREAD);
        Image later = new Image();
        later.part(0).export(0, 1).grant(Image.EXPORT, 1, 2).grant(Image.GLOBALS, 1, 1);
        later.part(3).export(0, 1).export(0, 1).export(0, 1);
        fails("of a later one", later.thread(1, 2, 0, 1, 0).bytes(), 0, -1);
    }

    private static void behind() {
        byte[] bytes = image();
        fails("one behind", Arrays.copyOf(bytes, bytes.length + 1), 4, bytes.length);
        fails("nine behind", Arrays.copyOf(bytes, bytes.length + 9), 4, bytes.length);
    }

    /** 1024 bytes: a compartment of 16, and stacks. */
    private static void room() {
        int[][] cases = {{32, 30, 0}, {32, 31, 5}, {32, 32, 5}, {1, 1, 0}};
        for (int[] one : cases) {
            Image image = new Image();
            image.part(0).export(0, 1);
            image.thread(0, 0, 0, one[0], 0).thread(0, 0, 0, one[1], 0);
            SweptGrants x = new SweptGrants(1);
            byte[] bytes = image.bytes();
            Check.due("boot " + one[1], Image.boot(x, bytes), one[2]);
            Check.due("place " + one[1], x.place(), one[2] == 0 ? -1 : bytes.length);
            if (one[2] == 0) {
                Check.due("heap", x.heap(4), 1024 - 16 - 16 * (one[0] + one[1]));
            }
        }
    }

    private static void refused() {
        SweptGrants x = new SweptGrants(2);
        Image.boot(x, with(MODE, 4));
        Check.due("place", x.place(), MODE);
        x.feed(1, 2, 3, 4, 5);
        for (int n : new int[] {-1, 21, 5000, Integer.MAX_VALUE, Integer.MIN_VALUE}) {
            Check.due("boot " + n, x.boot(n), -1);
            Check.due("place stays", x.place(), MODE);
            Check.due("tape stays", x.count(6), 20);
        }
        SweptGrants y = new SweptGrants(2);
        Image.boot(y, image());
        y.run(3);
        y.input(9);
        Check.due("boot", y.boot(1), -1);
        Check.due("time stays", y.count(0), 3);
        Check.due("input stays", y.count(8), 1);
        Check.due("booted stays", y.count(9), 1);
        Check.due("place", y.place(), -1);
        Check.due("boot of 0", y.boot(0), 1);
        Check.due("place", y.place(), 0);
        Check.due("booted", y.count(9), 0);
    }

    private static SweptGrants used() {
        Code code = new Code().take(4, 1).put(Asm.storeWord(4, 0, 0)).number(10, 16).go(0)
            .put(Asm.storeCap(10, 10, 0)).go(3).put(Asm.addi(0, 0, 0));
        SweptGrants x = Image.alone(code, Image.SERVICE, 0, 0, Image.DEVICE, 3, 0,
            Image.EXPORT, 0, 0, Image.SERVICE, 6, 0);
        x.input(1);
        x.run(9);
        Check.due("time", x.count(0), 9);
        Check.due("objects", x.heap(1), 1);
        Check.due("output", x.count(7), 1);
        return x;
    }

    private static void allBeginsAnew() {
        SweptGrants x = used();
        Check.due("boot", Image.boot(x, image()), 0);
        int[] counts = {0, -1, 0, 0, 0, 0, 0, 0, 0, 1};
        for (int what = 0; what < counts.length; what++) {
            Check.due("count " + what, x.count(what), counts[what]);
        }
        Check.due("fetch", x.fetch(), 0);
        Check.due("objects", x.heap(1), 0);
        Check.due("memory of the heap", x.memory(x.heap(0), 4), 0);
        Check.due("instructions", x.thread(0, 5), 0);
        SweptGrants y = used();
        Check.due("boot", Image.boot(y, with(MODE, 9)), 2);
        counts[9] = 0;
        for (int what = 0; what < counts.length; what++) {
            Check.due("count " + what, y.count(what), counts[what]);
        }
        Check.due("run", y.run(1), 0);
        Check.due("input", y.input(1), false);
        Check.due("memory", y.memory(0, 1), -1);
        Check.due("thread", y.thread(0, 0), -1);
        Check.due("compartment", y.compartment(0, 0), -1);
        Check.due("boot", Image.boot(y, image()), 0);
        Check.due("place", y.place(), -1);
        Check.due("run", y.run(4), 4);
    }

    /** Ends and wrong numbers go before 3, that before 4, that before 5. */
    private static void order() {
        byte[] bytes = with(FIRST_IMPORT + 1, 9);
        bytes[THREAD + 4] = 17;
        fails("2 before 3", bytes, 2, THREAD + 4);
        fails("1 before 3", Arrays.copyOf(bytes, THREAD + 4), 1, THREAD + 4);
        bytes = with(FIRST_IMPORT + 13, 9);
        bytes[THREAD] = 1;
        fails("the first of 3", bytes, 3, FIRST_IMPORT + 13);
        bytes = Arrays.copyOf(with(THREAD + 1, 1), THREAD + 6);
        fails("3 before 4", bytes, 3, THREAD + 1);
        Image image = new Image();
        image.part(32).export(0, 1);
        image.part(32).export(0, 1);
        bytes = image.thread(0, 0, 0, 32, 0).bytes();
        SweptGrants x = new SweptGrants(1);
        Check.due("5", Image.boot(x, bytes), 5);
        Check.due("4 before 5", Image.boot(x, Arrays.copyOf(bytes, bytes.length + 1)), 4);
        Check.due("place", x.place(), bytes.length);
        bytes = with(MODE, 0);
        bytes[ENTRY] = 7;
        fails("the first of 2", bytes, 2, ENTRY);
    }

    /** Threads that sleep, wait and ended, open frames, quarantine, and a sweep under way. */
    private static Image busy() {
        Image image = new Image();
        Code code = new Code().number(10, 600).go(0).put(Asm.copy(8, 10), Asm.storeCap(3, 10, 0),
            Asm.storeCap(10, 3, 16)).number(10, 40).go(0).put(Asm.copy(10, 8)).go(1).go(9);
        int sleeps = code.here();
        code.number(10, 900).go(3).put(0);
        int waits = code.here();
        code.put(Asm.copy(10, 3)).number(12, 800).go(4).put(0);
        int fails = code.here();
        code.put(0);
        image.part(2).services().grant(Image.EXPORT, 1, 0).grant(Image.DEVICE, 3, 0)
            .export(0, 1).export(sleeps, 1).export(waits, 1).export(fails, 1).code(code);
        image.part(3).grant(Image.EXPORT, 2, 0).export(0, 2).code(new Code().go(0));
        image.part(1).grant(Image.GLOBALS, 0, 1).export(0, 1).code(new Code().put(Asm.jal(0, 0)));
        return image.thread(0, 3, 7, 1, 0).thread(0, 2, 6, 2, 0).thread(0, 1, 5, 1, 0)
            .thread(0, 0, 4, 3, 4).thread(0, 0, 3, 1, 1).thread(2, 0, 2, 1, 1);
    }

    /** A used object that boots is like a new one, then and behind many steps. */
    private static void nothingIsLeft() {
        Image small = new Image();
        small.part(2).services().export(0, 3).code(new Code().number(10, 100).go(0).put(Asm.copy(8, 10))
            .number(10, 5).go(3).put(Asm.copy(10, 8)).go(1).go(6).number(10, 60).go(0)
            .put(Asm.jal(0, 0)));
        small.thread(0, 0, 0, 2, 1);
        Image pair = new Image();
        pair.part(0).export(0, 1).code(new Code().put(Asm.jal(0, 0)));
        pair.thread(0, 0, 0, 1, 0).thread(0, 0, 0, 1, 0);
        for (Image first : new Image[] {busy(), pair}) {
            for (Image next : new Image[] {small, busy(), pair}) {
                for (int steps : new int[] {0, 7, 25, 33, 45, 60, 200}) {
                    bootsAsNew(first, next, steps);
                }
            }
        }
        SweptGrants used = busy().boot(2);
        used.run(60);
        Check.due("calls", used.count(3) > 1, true);
        Check.due("faults", used.count(2), 1);
        Check.due("frames", used.thread(3, 2) > 1, true);
        Check.due("sweep under way", used.heap(6) > 0, true);
        Check.due("waits", used.thread(1, 0), 2);
        Check.due("sleeps", used.thread(2, 0), 1);
        used.run(140);
        Check.due("sweeps", used.heap(5), 1);
    }

    private static void bootsAsNew(Image first, Image next, int steps) {
        SweptGrants used = first.boot(2);
        SweptGrants fresh = next.boot(2);
        used.input(7);
        used.run(steps);
        Check.due("boot", Image.boot(used, next.bytes()), 0);
        Check.due("at once", Seen.all(used), Seen.all(fresh));
        for (int i = 0; i < 12; i++) {
            Check.due("run", used.run(5), fresh.run(5));
            Check.due("behind " + 5 * (i + 1), Seen.all(used), Seen.all(fresh));
        }
    }
}
