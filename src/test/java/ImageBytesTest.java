import java.util.function.IntPredicate;

/** Promises 3 and 4: every value of every byte of an image that has one of each kind of import. */
public final class ImageBytesTest {
    private static final int LENGTH = 38;

    public static void main(String[] args) {
        Check.due("length", image().length, LENGTH);
        counts();
        exportsAndImports();
        code();
        threads();
        Check.end();
    }

    private static byte[] image() {
        Image image = new Image();
        image.part(2).export(1, 3)
            .grant(Image.EXPORT, 0, 0).grant(Image.SERVICE, 8, 0).grant(Image.DEVICE, 3, 0)
            .grant(Image.SEAL, 239, 16).grant(Image.GLOBALS, 0, 27).code(new Code().put(1, 2));
        return image.thread(0, 0, 7, 32, 16).bytes();
    }

    /** Boots with that byte; the place is as told, or -1 without a fault. */
    private static void due(int at, int value, int fault, int place) {
        byte[] bytes = image();
        bytes[at] = (byte) value;
        SweptGrants x = new SweptGrants(2);
        Check.due(value + " at " + at, Image.boot(x, bytes), fault);
        Check.due(value + " at " + at + ": place", x.place(), fault == 0 ? -1 : place);
        Check.due(value + " at " + at + ": booted", x.count(9), fault == 0 ? 1 : 0);
    }

    private static void every(int at, IntPredicate right, int fault) {
        for (int value = 0; value < 256; value++) {
            due(at, value, right.test(value) ? 0 : fault, at);
        }
    }

    private static IntPredicate from(int least, int most) {
        return value -> value >= least && value <= most;
    }

    /** Where a number that is right says how much follows, only the others are tried. */
    private static void wrongOnes(int at, int least, int most) {
        for (int value = 0; value < 256; value++) {
            if (value < least || value > most) {
                due(at, value, 2, at);
            }
        }
    }

    private static void counts() {
        wrongOnes(0, 1, 8);
        wrongOnes(1, 1, 6);
        for (int more = 2; more <= 6; more++) {
            due(1, more, 1, LENGTH);
        }
        wrongOnes(2, 1, 200);
        for (int high = 1; high < 256; high++) {
            due(3, high, 2, 2);
        }
        every(4, from(0, 32), 2);
        wrongOnes(5, 0, 8);
        wrongOnes(6, 0, 16);
    }

    private static void exportsAndImports() {
        every(7, from(0, 1), 2);
        for (int high = 1; high < 256; high++) {
            due(8, high, 2, 7);
        }
        every(9, from(1, 3), 2);
        for (int kind = 10; kind <= 22; kind += 3) {
            wrongOnes(kind, 0, 4);
        }
        every(11, from(0, 0), 3);
        every(12, from(0, 0), 3);
        every(14, from(0, 8), 2);
        every(15, from(0, 0), 2);
        every(17, from(1, 3), 2);
        every(18, from(0, 0), 2);
        every(20, from(0, 239), 2);
        every(21, from(1, 16), 2);
        every(23, from(0, 0), 3);
        every(24, value -> value != 0 && (value & ~(1 | 2 | 8 | 16)) == 0, 2);
    }

    private static void code() {
        for (int at = 25; at < 33; at++) {
            every(at, value -> true, 0);
        }
    }

    private static void threads() {
        every(33, from(0, 0), 3);
        every(34, from(0, 0), 3);
        every(35, from(0, 7), 2);
        every(36, from(1, 32), 2);
        every(37, from(0, 16), 2);
    }
}
