import java.util.Arrays;
import java.util.Random;

/** All promises: programs by chance on the class and on the model, with all that can be seen alike. */
public final class ModelTest {
    private static final int PROGRAMS = 1500;
    private static final int IMAGES = 4000;

    private final String name;
    private final Random chance;
    private final SweptGrants real;
    private final Model model;
    private final int size;

    private ModelTest(int seed) {
        name = "program " + seed + ": ";
        chance = new Random(seed);
        size = chance.nextInt(8) == 0 ? 1 + chance.nextInt(2) : 3 + chance.nextInt(4);
        real = new SweptGrants(size);
        model = new Model(size);
    }

    public static void main(String[] args) {
        int from = args.length > 0 ? Integer.parseInt(args[0]) : 0;
        int programs = args.length > 1 ? Integer.parseInt(args[1]) : PROGRAMS;
        for (int seed = from; seed < from + programs; seed++) {
            new ModelTest(seed).program();
        }
        for (int seed = from; seed < from + IMAGES; seed++) {
            new ModelTest(seed).images();
        }
        Check.end();
    }

    private boolean boots(byte[] bytes, int n) {
        for (int at = 0; at < bytes.length; at += 20) {
            int[] words = new int[5];
            for (int i = 0; i < 20; i++) {
                words[i / 4] = words[i / 4] << 8 | (at + i < bytes.length ? bytes[at + i] & 255 : 0);
            }
            Check.due(name + "feed", real.feed(words[0], words[1], words[2], words[3], words[4]),
                model.feed(words));
        }
        int due = model.boot(n);
        Check.due(name + "boot", real.boot(n), due);
        Check.due(name + "place", real.place(), model.place());
        return due == 0;
    }

    private void program() {
        byte[] bytes = new Programs(chance).image().bytes();
        if (!boots(bytes, bytes.length)) {
            return;
        }
        boolean closely = chance.nextInt(3) == 0;
        int turns = closely ? 150 : 40;
        for (int turn = 0; turn < turns; turn++) {
            if (chance.nextInt(3) == 0) {
                int c = chance.nextInt(260) - 2;
                Check.due(name + "input", real.input(c), model.input(c));
            }
            int n = closely ? 1 : chance.nextInt(chance.nextInt(5) == 0 ? 300 : 12);
            Check.due(name + "run", real.run(n), model.run(n));
            if (!alike()) {
                System.out.println(name + "not alike behind turn " + turn);
                return;
            }
            if (chance.nextInt(4) == 0) {
                Check.due(name + "fetch", real.fetch(), model.fetch());
            }
        }
    }

    /** Images with a fault or two, or none. */
    private void images() {
        byte[] bytes = new Programs(chance).image().bytes();
        int n = bytes.length;
        for (int i = chance.nextInt(3); i > 0; i--) {
            int at = chance.nextInt(chance.nextBoolean() ? Math.min(80, n) : n);
            bytes[at] = (byte) (chance.nextBoolean() ? chance.nextInt(256) : bytes[at] + 1);
        }
        if (chance.nextInt(4) == 0) {
            n = Math.max(0, n + (chance.nextBoolean() ? chance.nextInt(3) : -chance.nextInt(n)));
            bytes = Arrays.copyOf(bytes, n);
        }
        boots(bytes, n);
        alike();
    }

    private boolean alike() {
        return counts() & threads() & memory();
    }

    private boolean same(String call, long got, long due) {
        Check.due(name + call, got, due);
        return got == due;
    }

    private boolean counts() {
        boolean alike = true;
        for (int what = -1; what < 14; what++) {
            alike &= same("count " + what, real.count(what), model.count(what));
            alike &= same("heap " + what, real.heap(what), model.heap(what));
            for (int c = 0; c < 8; c++) {
                alike &= same("compartment", real.compartment(c, what), model.compartment(c, what));
            }
        }
        return alike;
    }

    private boolean threads() {
        boolean alike = true;
        for (int t = -1; t < 7; t++) {
            for (int what = -1; what < 9; what++) {
                alike &= same("thread " + t + " " + what, real.thread(t, what), model.thread(t, what));
            }
            for (int k = 0; k < 17; k++) {
                for (int what = 0; what < 6; what++) {
                    long due = model.register(t, k, what);
                    long got = real.register(t, k, what);
                    alike &= got == due || same("register " + t + " " + k + " " + what, got, due);
                }
            }
        }
        return alike;
    }

    private boolean memory() {
        boolean alike = true;
        for (int at = 0; at < size * 1024; at += 4) {
            long due = model.memory(at, 4);
            long got = real.memory(at, 4);
            alike &= got == due || same("memory " + at, got, due);
        }
        for (int g = 0; g <= size * 64; g++) {
            int due = model.tag(g);
            int got = real.tag(g);
            alike &= got == due || same("tag " + g, got, due);
        }
        return alike;
    }
}
