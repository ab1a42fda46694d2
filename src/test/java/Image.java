import java.io.ByteArrayOutputStream;
import java.util.ArrayList;
import java.util.List;

/** An image for boot(), built by its parts. */
final class Image {
    static final int EXPORT = 0;
    static final int SERVICE = 1;
    static final int DEVICE = 2;
    static final int SEAL = 3;
    static final int GLOBALS = 4;

    private final List<Part> parts = new ArrayList<>();
    private final List<int[]> threads = new ArrayList<>();

    static final class Part {
        private final int globals;
        private final List<int[]> exports = new ArrayList<>();
        private final List<int[]> imports = new ArrayList<>();
        private int[] words = {0};

        private Part(int globals) {
            this.globals = globals;
        }

        Part export(int word, int interrupts) {
            exports.add(new int[] {word, interrupts});
            return this;
        }

        Part grant(int kind, int x, int y) {
            imports.add(new int[] {kind, x, y});
            return this;
        }

        /** Import k is service k. */
        Part services() {
            for (int k = 0; k <= 8; k++) {
                grant(SERVICE, k, 0);
            }
            return this;
        }

        Part code(Code code) {
            words = code.words();
            return this;
        }

        private void write(ByteArrayOutputStream out) {
            half(out, words.length);
            out.write(globals);
            out.write(exports.size());
            out.write(imports.size());
            for (int[] one : exports) {
                half(out, one[0]);
                out.write(one[1]);
            }
            for (int[] one : imports) {
                out.write(one[0]);
                out.write(one[1]);
                out.write(one[2]);
            }
            for (int word : words) {
                half(out, word);
                half(out, word >>> 16);
            }
        }

        private static void half(ByteArrayOutputStream out, int value) {
            out.write(value);
            out.write(value >>> 8);
        }
    }

    Part part(int globals) {
        Part made = new Part(globals);
        parts.add(made);
        return made;
    }

    Image thread(int compartment, int export, int priority, int stack, int frames) {
        threads.add(new int[] {compartment, export, priority, stack, frames});
        return this;
    }

    byte[] bytes() {
        ByteArrayOutputStream out = new ByteArrayOutputStream();
        out.write(parts.size());
        out.write(threads.size());
        for (Part one : parts) {
            one.write(out);
        }
        for (int[] one : threads) {
            for (int value : one) {
                out.write(value);
            }
        }
        return out.toByteArray();
    }

    SweptGrants boot(int size) {
        SweptGrants made = new SweptGrants(size);
        Check.due("boot", boot(made, bytes()), 0);
        return made;
    }

    static int boot(SweptGrants into, byte[] bytes) {
        feed(into, bytes);
        return into.boot(bytes.length);
    }

    /** The last feed is filled up with 0. */
    static void feed(SweptGrants into, byte[] bytes) {
        for (int at = 0; at < bytes.length; at += 20) {
            into.feed(word(bytes, at), word(bytes, at + 4), word(bytes, at + 8),
                word(bytes, at + 12), word(bytes, at + 16));
        }
    }

    private static int word(byte[] bytes, int at) {
        int value = 0;
        for (int i = 0; i < 4; i++) {
            value = value << 8 | (at + i < bytes.length ? bytes[at + i] & 255 : 0);
        }
        return value;
    }

    /** One compartment with four granules of globals, and one thread with four frames. */
    static SweptGrants alone(Code code, int... imports) {
        Image image = new Image();
        Part part = image.part(4).export(0, 1).code(code);
        for (int k = 0; k + 2 < imports.length; k += 3) {
            part.grant(imports[k], imports[k + 1], imports[k + 2]);
        }
        return image.thread(0, 0, 1, 4, 4).boot(2);
    }

    /** The same with all services as imports. */
    static SweptGrants served(Code code) {
        Image image = new Image();
        image.part(4).services().export(0, 1).code(code);
        return image.thread(0, 0, 1, 4, 4).boot(2);
    }
}
