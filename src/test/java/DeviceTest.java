/** Promises 5, 6 and 7: the device, input and output. */
public final class DeviceTest {
    private static final int DEVICE = 0x10000000;

    public static void main(String[] args) {
        capability();
        inputLimits();
        inputFullAndReadOnce();
        readingToNowhere();
        reading();
        writing();
        outputLimits();
        oneByteTooMany();
        otherWords();
        faults();
        Check.end();
    }

    private static SweptGrants with(int perms, Code code) {
        return Image.alone(code, Image.DEVICE, perms, 0);
    }

    private static Code device() {
        return new Code().take(4, 0);
    }

    private static void capability() {
        for (int perms = 1; perms <= 3; perms++) {
            SweptGrants m = with(perms, device());
            m.run(2);
            long[] due = {DEVICE, DEVICE, DEVICE + 16, perms | Asm.GLOBAL, 0, 1};
            for (int what = 0; what < 6; what++) {
                Check.due("device " + what, m.register(0, 4, what), due[what]);
            }
        }
    }

    private static void inputLimits() {
        SweptGrants m = with(3, new Code().put(Asm.jal(0, 0)));
        for (int c : new int[] {-1, 256, 1000, Integer.MIN_VALUE, Integer.MAX_VALUE}) {
            Check.due("input " + c, m.input(c), false);
        }
        Check.due("waiting", m.count(8), 0);
        for (int i = 0; i < 64; i++) {
            Check.due("input", m.input(i * 4), true);
            Check.due("waiting", m.count(8), i + 1);
        }
        Check.due("one too many", m.input(0), false);
        Check.due("waiting", m.count(8), 64);
    }

    private static void inputFullAndReadOnce() {
        SweptGrants m = with(1, device().put(Asm.loadWord(10, 4, 0), Asm.jal(0, 0)));
        for (int i = 0; i < 64; i++) {
            m.input(200 + i % 50);
        }
        Check.due("full", m.input(1), false);
        m.run(3);
        Check.due("the first, not the refused one", m.register(0, 10, 0), 200);
        Check.due("63", m.count(8), 63);
        Check.due("room again", m.input(1), true);
        Check.due("full again", m.input(1), false);
    }

    /** c0 stays NULL, but the byte is read. */
    private static void readingToNowhere() {
        SweptGrants m = with(1, device().put(Asm.loadWord(0, 4, 0), Asm.loadWord(10, 4, 0)));
        m.input(6);
        m.input(7);
        m.run(4);
        Check.due("c0", m.register(0, 0, 0), 0);
        Check.due("the second", m.register(0, 10, 0), 7);
    }

    private static void reading() {
        Code code = device().put(Asm.loadWord(10, 4, 0), Asm.jal(0, -4));
        SweptGrants m = with(1, code);
        m.run(3);
        Check.due("nothing", m.register(0, 10, 0), 0xFFFFFFFFL);
        Check.due("a number", m.register(0, 10, 5), 0);
        m.input(255);
        m.input(0);
        m.input(7);
        for (long due : new long[] {255, 0, 7, 0xFFFFFFFFL}) {
            m.run(2);
            Check.due("next byte", m.register(0, 10, 0), due);
        }
        Check.due("waiting", m.count(8), 0);
        for (int i = 0; i < 60; i++) {
            m.input(i);
        }
        for (int i = 0; i < 100; i++) {
            m.run(2);
            Check.due("in order", m.register(0, 10, 0), i);
            m.input(60 + i);
        }
        Check.due("waiting", m.count(8), 60);
    }

    private static void writing() {
        Code code = device();
        for (int i = 1; i <= 9; i++) {
            code.number(6, 0xABCD00 + i * 16 + 0x70).put(Asm.storeWord(4, 6, 0));
        }
        SweptGrants m = with(2, code.put(Asm.jal(0, 0)));
        Check.due("nothing", m.fetch(), 0);
        m.run(5);
        Check.due("bytes", m.count(7), 1);
        Check.due("one", m.fetch(), 0x0180000000000000L);
        Check.due("taken", m.count(7), 0);
        Check.due("none", m.fetch(), 0);
        m.run(24);
        Check.due("bytes", m.count(7), 8);
        Check.due("seven", m.fetch(), 0x0790A0B0C0D0E0F0L);
        Check.due("left", m.count(7), 1);
        Check.due("the last", m.fetch(), 0x0100000000000000L);
        Check.due("none", m.fetch(), 0);
    }

    /** Bytes 0, 1, 2 ..: of those not taken the latest 500 stay. */
    private static void outputLimits() {
        Code code = device().put(Asm.storeWord(4, 6, 0), Asm.addi(6, 6, 1), Asm.jal(0, -8));
        SweptGrants m = with(2, code);
        m.run(2 + 3 * 500);
        Check.due("all there", m.count(7), 500);
        m.run(3 * 23);
        Check.due("no more", m.count(7), 500);
        Check.due("the latest stay", m.fetch(), 0x0700000000000000L | series(23));
        Check.due("left", m.count(7), 493);
        m.run(3 * 7);
        Check.due("room again", m.count(7), 500);
        int next = 30;
        for (int i = 0; i < 71; i++) {
            Check.due("fetch", m.fetch(), 0x0700000000000000L | series(next));
            next += 7;
        }
        Check.due("left", m.count(7), 3);
        long last = m.fetch();
        Check.due("three", last >>> 56, 3);
        Check.due("first of them", last >>> 48 & 255, next & 255);
        Check.due("behind them", last & 0xFFFFFFFFL, 0);
        Check.due("none", m.fetch(), 0);
    }

    private static void oneByteTooMany() {
        Code code = device().put(Asm.storeWord(4, 6, 0), Asm.addi(6, 6, 1), Asm.jal(0, -8));
        for (int bytes = 499; bytes <= 501; bytes++) {
            SweptGrants m = with(2, code);
            m.run(2 + 3 * bytes);
            Check.due("bytes of " + bytes, m.count(7), Math.min(500, bytes));
            Check.due("first of " + bytes, m.fetch() >>> 48 & 255, bytes > 500 ? 1 : 0);
        }
    }

    private static long series(int from) {
        long answer = 0;
        for (int i = 0; i < 7; i++) {
            answer = answer << 8 | from + i & 255;
        }
        return answer;
    }

    private static void otherWords() {
        Image image = new Image();
        image.part(1).export(0, 1).grant(Image.DEVICE, 3, 0).code(device().put(Asm.addi(6, 0, 9),
            Asm.storeWord(4, 6, 4), Asm.storeWord(4, 6, 8), Asm.storeWord(4, 6, 12),
            Asm.loadWord(7, 4, 4), Asm.loadWord(8, 4, 8), Asm.loadWord(9, 4, 12), Asm.jal(0, 0)));
        SweptGrants m = image.thread(0, 0, 0, 1, 0).thread(0, 0, 7, 1, 0).boot(1);
        m.input(5);
        m.run(9);
        Check.due("time", m.register(1, 7, 0), 7);
        Check.due("number", m.register(1, 8, 0), 1);
        Check.due("nothing", m.register(1, 9, 0), 0);
        Check.due("no output", m.count(7), 0);
        Check.due("input stays", m.count(8), 1);
        Check.due("time goes on", m.count(0), 9);
    }

    private static void fails(String name, int perms, int fault, int word) {
        SweptGrants m = with(perms, device().put(Asm.addi(6, 0, 1), word));
        m.input(3);
        m.run(4);
        Check.due(name, m.thread(0, 4), fault);
        Check.due(name + ": no output", m.count(7), 0);
        Check.due(name + ": input stays", m.count(8), 1);
    }

    private static void faults() {
        fails("byte", 3, 5, Asm.load(0, 7, 4, 0));
        fails("half", 3, 5, Asm.load(1, 7, 4, 0));
        fails("byte without sign", 3, 5, Asm.load(4, 7, 4, 1));
        fails("half without sign", 3, 5, Asm.load(5, 7, 4, 0));
        fails("capability", 3, 5, Asm.loadCap(7, 4, 0));
        fails("byte written", 3, 5, Asm.store(0, 4, 6, 0));
        fails("half written", 3, 5, Asm.store(1, 4, 6, 0));
        fails("capability written", 3, 5, Asm.storeCap(4, 6, 0));
        fails("not aligned", 3, 5, Asm.storeWord(4, 6, 1));
        fails("bounds", 3, 4, Asm.storeWord(4, 6, 16));
        fails("below", 3, 4, Asm.loadWord(7, 4, -4));
        fails("capability beyond", 3, 4, Asm.loadCap(7, 4, 4));
        fails("no WRITE", 1, 3, Asm.storeWord(4, 6, 0));
        fails("no READ", 2, 3, Asm.loadWord(7, 4, 0));
        fails("no RUN", 3, 3, Asm.jalr(0, 4, 0));
    }
}
