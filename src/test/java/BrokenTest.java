import java.util.Random;

/**
 * Promise 15: the books of broken(), kept here from outside over many programs by chance.
 * That takes more than 512 looks at one object, of which the class makes nothing.
 */
public final class BrokenTest {
    private static final int PROGRAMS = 400;
    private static final long DEVICE = 0x10000000L;

    public static void main(String[] args) {
        for (int seed = 0; seed < PROGRAMS; seed++) {
            audit(seed, new Random(seed));
        }
        Check.end();
    }

    private static void audit(int seed, Random chance) {
        int size = 1 + chance.nextInt(3);
        byte[] bytes = image(chance).bytes();
        SweptGrants m = new SweptGrants(size);
        SweptGrants twin = new SweptGrants(size);
        int answer = Image.boot(m, bytes);
        Check.due("same boot", Image.boot(twin, bytes), answer);
        if (answer != 0) {
            return;
        }
        for (int turn = 0; turn < 40; turn++) {
            int steps = chance.nextInt(turn % 8 == 7 ? 400 : 12);
            int input = chance.nextInt(256);
            Check.due("same input", twin.input(input), m.input(input));
            Check.due("same run", twin.run(steps), m.run(steps));
            Books books = new Books(m);
            Check.due(seed + ": capabilities beyond what was given", books.beyond(), 0);
            Check.due(seed + ": revoked ones of the current thread", books.revoked(), 0);
            Check.due(seed + ": ones of no object", books.dangling(), 0);
            Check.due(seed + ": the heap's sum", m.heap(2) + m.heap(3) + m.heap(4),
                size * 1024 - m.heap(0));
            Check.due("same fetch", twin.fetch(), m.fetch());
            for (int what : new int[] {-1, 0, 1, 2, 3, Integer.MAX_VALUE, Integer.MIN_VALUE}) {
                Check.due("broken " + what, m.broken(what), 0);
            }
            Check.due("same PCC", twin.register(0, 16, 0), m.register(0, 16, 0));
        }
    }

    /** Compartment 0 goes on for ever, calling those whose code is by chance. */
    private static Image image(Random chance) {
        Image image = new Image();
        int parts = 2 + chance.nextInt(2);
        for (int c = 0; c < parts; c++) {
            image.part(4).export(0, c == 0 ? 1 : 1 + chance.nextInt(3)).export(0, 1).services()
                .grant(Image.EXPORT, 1 + chance.nextInt(parts - 1), 0)
                .grant(Image.EXPORT, 1 + chance.nextInt(parts - 1), 1)
                .grant(Image.DEVICE, 1 + chance.nextInt(3), 0)
                .grant(Image.SEAL, chance.nextInt(240), 1 + chance.nextInt(16))
                .grant(Image.GLOBALS, chance.nextInt(parts), new int[] {27, 1, 3, 25}[chance.nextInt(4)])
                .code(c == 0 ? driver(chance) : code(chance));
        }
        int threads = 1 + chance.nextInt(4);
        for (int t = 0; t < threads; t++) {
            image.thread(0, chance.nextInt(2), chance.nextInt(3), 1 + chance.nextInt(6),
                1 + chance.nextInt(6));
        }
        return image;
    }

    private static Code driver(Random chance) {
        Code code = new Code();
        while (code.here() < 120) {
            code.number(10, 16 << chance.nextInt(6)).go(0).put(Asm.copy(8 + chance.nextInt(2), 10))
                .put(Asm.storeCap(3, 10, 16 * chance.nextInt(4))).take(12 + chance.nextInt(4), 11 + chance.nextInt(3))
                .go(9 + chance.nextInt(2)).put(Asm.copy(10, 8 + chance.nextInt(2)))
                .go(chance.nextInt(3) == 0 ? 9 : 1).put(Asm.addi(10, 0, chance.nextInt(20)))
                .go(new int[] {2, 3, 6, 7}[chance.nextInt(4)]);
        }
        return code.put(Asm.jal(0, -4 * code.here()));
    }

    private static Code code(Random chance) {
        Code code = new Code();
        while (code.here() < 60) {
            int d = chance.nextInt(16);
            int a = chance.nextInt(16);
            int b = chance.nextInt(16);
            switch (chance.nextInt(16)) {
                case 0:
                    code.take(5 + chance.nextInt(11), chance.nextInt(14));
                    break;
                case 1:
                    code.number(10, 1 + chance.nextInt(200)).go(0);
                    break;
                case 2:
                    code.number(10, 16 << chance.nextInt(6)).go(0).put(Asm.copy(8 + chance.nextInt(2), 10));
                    break;
                case 3:
                    code.put(Asm.copy(10, 8 + chance.nextInt(2))).go(1);
                    break;
                case 4:
                    code.put(Asm.addi(10, 0, chance.nextInt(20))).go(1 + chance.nextInt(8));
                    break;
                case 5:
                    code.go(9 + chance.nextInt(2));
                    break;
                case 6:
                    code.put(Asm.storeCap(3, 8 + chance.nextInt(8), 16 * chance.nextInt(4)));
                    break;
                case 7:
                    code.put(Asm.loadCap(6 + chance.nextInt(10), 3, 16 * chance.nextInt(4)));
                    break;
                case 8:
                    code.put(Asm.derive(chance.nextInt(8), 4 + d % 12, a, b));
                    break;
                case 9:
                    code.put(Asm.inspect(chance.nextInt(13), 4 + d % 12, a));
                    break;
                case 10:
                    code.put(Asm.narrow(4 + d % 12, a, 16 * chance.nextInt(8)));
                    break;
                case 11:
                    code.put(Asm.storeCap(2, a, -16), Asm.loadCap(4 + d % 12, 2, -16));
                    break;
                case 12:
                    code.put(Asm.move(2, 2, chance.nextInt(4) == 0 ? -16 : 0));
                    break;
                case 13:
                    code.put(Asm.storeCap(8, a, 0), Asm.loadCap(4 + d % 12, 9, 0));
                    break;
                case 14:
                    code.put(chance.nextInt(4) == 0 ? chance.nextInt() : Asm.addi(4 + d % 12, a, d));
                    break;
                default:
                    code.put(chance.nextInt(6) == 0 ? Asm.jalr(d, a, 0) : Asm.jal(4, 4));
            }
        }
        return code.put(Asm.jal(0, -4 * code.here()));
    }

    /** What register(), memory() and tag() show, held against what was given. */
    private static final class Books {
        private final SweptGrants m;
        private int beyond;
        private int revoked;
        private int dangling;

        Books(SweptGrants m) {
            this.m = m;
            for (int t = 0; m.thread(t, 0) >= 0; t++) {
                for (int k = 0; k <= 16; k++) {
                    long[] cap = new long[6];
                    for (int what = 0; what < 6; what++) {
                        cap[what] = m.register(t, k, what);
                    }
                    look(cap, false, t == m.count(1));
                }
            }
            for (int g = 0; m.tag(g) >= 0; g++) {
                long kind = m.memory(16 * g + 12, 4);
                look(new long[] {m.memory(16 * g, 4), m.memory(16 * g + 4, 4),
                    m.memory(16 * g + 8, 4), kind & 255, kind >> 8 & 255, m.tag(g) & 1}, true, false);
            }
        }

        int beyond() {
            return beyond;
        }

        int revoked() {
            return revoked;
        }

        int dangling() {
            return dangling;
        }

        private void look(long[] cap, boolean inMemory, boolean ofCurrent) {
            boolean counted = cap[4] <= 3 || cap[4] >= 8;
            boolean used = (cap[3] & (Asm.READ | Asm.WRITE)) != 0;
            if (cap[5] == 0 || cap[1] >= cap[2]) {
                return;
            }
            if (counted && !isGiven(cap)) {
                beyond++;
            }
            if (ofCurrent && used && isRevoked(cap[1])) {
                revoked++;
            }
            boolean inHeap = cap[1] >= m.heap(0) && m.tag((int) (cap[1] / 16)) >= 0;
            if (inMemory && used && inHeap && !isRevoked(cap[1]) && !isInObject(cap[1], cap[1] + 1)) {
                dangling++;
            }
        }

        private boolean isRevoked(long address) {
            return address < 32768 && m.tag((int) (address / 16)) >= 2;
        }

        private static boolean within(long[] cap, long base, long top, int perms) {
            return cap[1] >= base && cap[2] <= top && (cap[3] & ~perms) == 0;
        }

        private boolean isGiven(long[] cap) {
            if (within(cap, DEVICE, DEVICE + 16, Asm.READ | Asm.WRITE | Asm.GLOBAL)
                || within(cap, 8, 264, Asm.SEAL | Asm.GLOBAL)) {
                return true;
            }
            for (int c = 0; m.compartment(c, 0) >= 0; c++) {
                if (within(cap, m.compartment(c, 0), m.compartment(c, 2), Asm.CODE)
                    || within(cap, m.compartment(c, 2), m.compartment(c, 3), Asm.DATA)) {
                    return true;
                }
            }
            for (int t = 0; m.thread(t, 0) >= 0; t++) {
                int next = m.thread(t + 1, 7);
                if (within(cap, m.thread(t, 7), next < 0 ? m.heap(0) : next, Asm.STACK)) {
                    return true;
                }
            }
            return within(cap, m.heap(0), 32768, Asm.DATA)
                && (isRevoked(cap[1]) && isRevoked(cap[2] - 1) || isInObject(cap[1], cap[2]));
        }

        /** An object begins there or below, and none begins behind that. */
        private boolean isInObject(long base, long top) {
            boolean found = false;
            for (int k = 0; m.heap(8 + k) >= 0; k++) {
                int place = m.heap(8 + k);
                found |= place <= base;
                if (place > base && place < top) {
                    return false;
                }
            }
            return found;
        }
    }
}
