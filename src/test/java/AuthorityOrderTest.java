/**
 * Promise 5, AUTHORITIES: every mixture of what can be wrong with one, for every size that is read
 * or written and for WAIT and WAKE; the first in the document's order is the fault.
 */
public final class AuthorityOrderTest {
    private static final int NO_TAG = 1;
    private static final int SEALED = 2;
    private static final int NO_PERM = 4;
    private static final int OUTSIDE = 8;
    private static final int CROOKED = 16;
    private static final int WAIT = 4;
    private static final int WAKE = 5;

    public static void main(String[] args) {
        for (int wrong = 0; wrong < 32; wrong++) {
            for (int f = 0; f <= 5; f++) {
                reads(wrong, f);
            }
            for (int f = 0; f <= 3; f++) {
                writes(wrong, f);
            }
            serves(wrong, WAIT);
            serves(wrong, WAKE);
        }
        Check.end();
    }

    /** c4 is the globals (64 bytes) with what is wrong, but for its address. */
    private static Code spoil(Code code, int wrong, int perm) {
        code.put(Asm.copy(4, 3));
        if ((wrong & NO_PERM) != 0) {
            code.put(Asm.addi(6, 0, 255 - perm), Asm.derive(3, 4, 4, 6));
        }
        if ((wrong & SEALED) != 0) {
            code.take(6, 9).put(Asm.derive(4, 4, 4, 6));
        }
        if ((wrong & NO_TAG) != 0) {
            code.put(Asm.inspect(9, 4, 4));
        }
        return code;
    }

    private static int offset(int wrong, int size) {
        return ((wrong & OUTSIDE) != 0 ? 64 : 0) + ((wrong & CROOKED) != 0 ? (size + 1) / 2 : 0);
    }

    /** A byte lies nowhere crooked. */
    private static int due(int wrong, int size) {
        int counted = size == 1 ? wrong & ~CROOKED : wrong;
        return counted == 0 ? 0 : Integer.numberOfTrailingZeros(counted) + 1;
    }

    private static SweptGrants machine(Code code) {
        Image image = new Image();
        image.part(4).services().grant(Image.SEAL, 0, 1).export(0, 1).code(code);
        return image.thread(0, 0, 1, 4, 4).boot(2);
    }

    private static void fails(String name, Code code, int fault) {
        SweptGrants m = machine(code);
        m.run(code.here() - 1);
        Check.due(name + ": none before", m.thread(0, 4), 0);
        m.run(1);
        Check.due(name, m.thread(0, 4), fault);
    }

    private static void reads(int wrong, int f) {
        int size = new int[] {1, 2, 4, 16, 1, 2}[f];
        fails("read " + f + " with " + wrong,
            spoil(new Code(), wrong, Asm.READ).put(Asm.load(f, 7, 4, offset(wrong, size))),
            due(wrong, size));
    }

    private static void writes(int wrong, int f) {
        int size = new int[] {1, 2, 4, 16}[f];
        fails("write " + f + " with " + wrong,
            spoil(new Code(), wrong, Asm.WRITE).put(Asm.store(f, 4, 7, offset(wrong, size))),
            due(wrong, size));
    }

    /** A cursor can't be moved once it is sealed, so it is moved ahead of that. */
    private static void serves(int wrong, int service) {
        Code code = new Code().put(Asm.move(3, 3, offset(wrong, 4)));
        spoil(code, wrong, service == WAIT ? Asm.READ : Asm.WRITE)
            .put(Asm.copy(10, 4), Asm.addi(11, 0, 0), Asm.addi(12, 0, 5)).go(service);
        SweptGrants m = machine(code);
        m.run(code.here());
        long right = service == WAIT ? 2 : 0;
        Check.due("service " + service + " with " + wrong, m.register(0, 10, 0),
            wrong == 0 ? right : 0xFFFFFFFFL);
        Check.due("no fault", m.thread(0, 4), 0);
        Check.due("waits", m.thread(0, 0), wrong == 0 && service == WAIT ? 2 : 0);
    }
}
