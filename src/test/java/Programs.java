import java.util.Random;

/**
 * Images by chance: compartments whose code goes on for ever without a fault, and wild ones that
 * they call, whose faults come back to them.
 */
final class Programs {
    private static final int[] EDGES = {0, 1, 2, 3, 4, 7, 8, 9, 15, 16, 17, 31, 32, 255, 256, 2047,
        2048, 10000, 10001, -1, -2, -16, -2048, Integer.MAX_VALUE, Integer.MIN_VALUE, 0x10000000};
    private static final int SERVICES = 9;
    private static final int FIRST_DEVICE = 9;
    private static final int FIRST_SEAL = 10;
    private static final int FIRST_EXPORT = 11;
    private static final int IMPORTS = 16;

    private final Random chance;
    private int steady;
    private int parts;

    Programs(Random chance) {
        this.chance = chance;
    }

    private int below(int n) {
        return chance.nextInt(n);
    }

    private int oneOf(int... all) {
        return all[below(all.length)];
    }

    Image image() {
        Image image = new Image();
        steady = 1 + below(2);
        parts = steady + 1 + below(below(4) == 0 ? 5 : 2);
        for (int c = 0; c < parts; c++) {
            part(image, c < steady);
        }
        int threads = 1 + below(below(3) == 0 ? 6 : 3);
        for (int t = 0; t < threads; t++) {
            boolean wild = below(8) == 0;
            image.thread(wild ? below(parts) : below(steady), below(3), oneOf(0, 1, 1, 1, 2, 7),
                1 + below(6), wild ? below(3) : 1 + below(6));
        }
        return image;
    }

    private void part(Image image, boolean calm) {
        Image.Part part = image.part(below(9) == 0 ? 4 + below(29) : 4).services()
            .grant(Image.DEVICE, calm ? 3 : 1 + below(3), 0)
            .grant(Image.SEAL, oneOf(0, 1, 239, below(240)), 1 + below(16))
            .grant(Image.EXPORT, steady + below(parts - steady), below(3));
        for (int i = FIRST_EXPORT + 1; i < IMPORTS; i++) {
            grant(part, below(5));
        }
        Code code = new Code();
        int most = 20 + below(130);
        while (code.here() < most) {
            if (calm) {
                calm(code);
            } else {
                wild(code);
            }
        }
        int entry = calm ? 0 : below(code.here());
        code.put(!calm && below(3) == 0 ? Asm.jalr(0, 9, 0) : Asm.jal(0, -4 * code.here()));
        part.export(0, 1).export(0, calm ? oneOf(1, 1, 1, 2, 3) : 1 + below(3))
            .export(entry, calm ? 3 : 1 + below(3)).code(code);
    }

    private void grant(Image.Part part, int kind) {
        switch (kind) {
            case 0:
                part.grant(Image.EXPORT, below(parts), below(3));
                break;
            case 1:
                part.grant(Image.SERVICE, below(SERVICES), 0);
                break;
            case 2:
                part.grant(Image.DEVICE, 1 + below(3), 0);
                break;
            case 3:
                part.grant(Image.SEAL, below(240), 1 + below(16));
                break;
            default:
                part.grant(Image.GLOBALS, below(parts), oneOf(27, 27, 1, 2, 3, 9, 18, 19, 25));
        }
    }

    /** What can't fail as long as c2 and c3 are as they were given. */
    private void calm(Code code) {
        switch (below(13)) {
            case 0:
            case 1:
                code.number(10, oneOf(1, 16, 17, 1 + below(200), 1 + below(900))).go(0)
                    .put(Asm.copy(oneOf(8, 9), 10), Asm.storeCap(3, 10, 16 * below(3)));
                break;
            case 2:
            case 3:
                code.put(Asm.loadCap(10, 3, 16 * below(3))).go(1);
                break;
            case 4:
                code.put(Asm.copy(10, oneOf(8, 9))).go(1);
                break;
            case 5:
                code.number(10, oneOf(0, 1, 2, 3, 20, 60, -1)).go(oneOf(2, 3, 3, 6, 7, 8));
                break;
            case 6:
                await(code, 3);
                break;
            case 7:
                wake(code, 3);
                break;
            case 8:
            case 9:
                code.take(12 + below(4), FIRST_DEVICE + below(IMPORTS - FIRST_DEVICE))
                    .put(Asm.loadCap(10, 3, 16 * below(4))).go(FIRST_EXPORT);
                break;
            case 10:
                code.take(6, FIRST_DEVICE).put(Asm.storeWord(6, any(), oneOf(0, 0, 4, 12)),
                    Asm.loadWord(7, 6, oneOf(0, 0, 4, 8, 12)));
                break;
            case 11:
                code.put(Asm.storeWord(3, any(), 4 * below(16)), Asm.load(below(6) % 3, 7, 3, 4 * below(8)),
                    Asm.storeCap(2, any(), -16), Asm.loadCap(4 + below(4), 2, -16));
                break;
            default:
                harmless(code, 4 + below(4));
        }
    }

    /** What never fails, and changes d alone. */
    private void harmless(Code code, int d) {
        int f = below(8);
        switch (below(8)) {
            case 0:
                code.put(Asm.derive(below(8), d, any(), any()));
                break;
            case 1:
                code.put(Asm.inspect(below(13), d, any()));
                break;
            case 2:
                code.put(Asm.narrow(d, any(), oneOf(0, 8, 16, 32, 48, below(4096))));
                break;
            case 3:
                code.put(Asm.move(d, any(), oneOf(EDGES)));
                break;
            case 4:
                code.number(d, oneOf(oneOf(EDGES), chance.nextInt()));
                break;
            case 5:
                code.put(Asm.r(0x33, f, oneOf(0, 1, f == 0 || f == 5 ? 32 : 0), d, any(), any()));
                break;
            case 6:
                code.put(f == 1 || f == 5 ? Asm.r(0x13, f, f == 5 ? oneOf(0, 32) : 0, d, any(), below(32))
                    : Asm.i(0x13, f, d, any(), oneOf(EDGES)));
                break;
            default:
                jumps(code, d);
        }
    }

    private void jumps(Code code, int d) {
        switch (below(5)) {
            case 0:
                code.put(Asm.branch(oneOf(0, 1, 4, 5, 6, 7), any(), any(), 8), Asm.addi(d, d, 1));
                break;
            case 1:
                code.put(Asm.jal(d, 4));
                break;
            case 2:
                code.put(Asm.auipc(d, 0), Asm.jalr(d, d, 8));
                break;
            case 3:
                code.put(Asm.auipc(d, 0), Asm.move(d, d, 16), Asm.inspect(10 + below(3), d, d),
                    Asm.jalr(d, d, 0));
                break;
            default:
                code.put(Asm.auipc(d, oneOf(EDGES)));
        }
    }

    private void await(Code code, int word) {
        code.put(Asm.move(10, word, oneOf(0, 0, 0, 4)), Asm.loadWord(11, word, 0),
            Asm.addi(11, 11, below(6) == 0 ? 1 : 0))
            .number(12, oneOf(0, 1, 5, 40, 90, 10001, -1)).go(4);
    }

    private void wake(Code code, int word) {
        code.put(Asm.move(10, word, oneOf(0, 0, 0, 4))).number(11, oneOf(0, 1, 1, 2, 9, -1)).go(5);
    }

    private int d() {
        return below(9) == 0 ? any() : 4 + below(12);
    }

    private int any() {
        return below(16);
    }

    private void wild(Code code) {
        switch (below(15)) {
            case 0:
                code.take(d(), below(IMPORTS));
                break;
            case 1:
                code.put(Asm.copy(10, any())).go(oneOf(1, 1, below(SERVICES)));
                break;
            case 2:
                code.number(10, oneOf(EDGES)).number(12, oneOf(EDGES)).go(below(SERVICES));
                break;
            case 3:
                await(code, oneOf(3, 10, any()));
                break;
            case 4:
                wake(code, oneOf(3, 10, any()));
                break;
            case 5:
                code.put(Asm.move(2, 2, oneOf(0, 0, 0, 0, -16, -32, 16, 8)))
                    .take(5, FIRST_EXPORT + below(IMPORTS - FIRST_EXPORT))
                    .put(Asm.jalr(oneOf(1, 1, 8, any()), 5, oneOf(0, 0, 0, 0, 0, 0, 4)));
                break;
            case 6:
                code.put(Asm.storeCap(oneOf(2, 3, 3, 10, any()), any(), 16 * (below(6) - 2)));
                break;
            case 7:
                code.put(Asm.loadCap(d(), oneOf(2, 3, 3, 10, any()), 16 * (below(6) - 2)));
                break;
            case 8:
                code.put(Asm.load(below(6), d(), oneOf(2, 3, 3, 10, any()), below(80) - 16));
                break;
            case 9:
                code.put(Asm.store(below(4), oneOf(2, 3, 3, 10, any()), any(), below(80) - 16));
                break;
            case 10:
                code.put(Asm.jalr(d(), oneOf(1, 9, any()), oneOf(0, 0, 0, 4)));
                break;
            case 11:
                code.put(below(5) == 0 ? chance.nextInt() : Asm.copy(9, 1));
                break;
            case 12:
                sealing(code);
                break;
            case 13:
                calm(code);
                break;
            default:
                harmless(code, d());
        }
    }

    private void sealing(Code code) {
        int reg = oneOf(4, 6, 7);
        code.take(reg, FIRST_SEAL).put(Asm.move(reg, reg, below(3)),
            Asm.derive(4, oneOf(8, 12, 13), oneOf(3, 8, any()), reg),
            Asm.derive(5, d(), oneOf(8, 12, 13), reg));
    }
}
