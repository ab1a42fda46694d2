/** Promises 3, 9, 10 and 12: where all lies, and the first capabilities. */
public final class LayoutTest {
    private static final long DEVICE = 0x10000000L;

    public static void main(String[] args) {
        places();
        imports();
        code();
        wrong();
        Check.end();
    }

    private static Image image() {
        Image image = new Image();
        image.part(3).export(0, 1).code(new Code().put(1, 2, 3, 4));
        image.part(0).export(2, 2).export(1, 3)
            .grant(Image.EXPORT, 1, 1).grant(Image.SERVICE, 8, 0).grant(Image.DEVICE, 2, 0)
            .grant(Image.SEAL, 239, 16).grant(Image.GLOBALS, 0, 19).grant(Image.GLOBALS, 1, 1)
            .code(new Code().put(0x01020304, 6, 7, 8, 9));
        image.part(32).export(0, 1).code(new Code().put(10));
        return image.thread(1, 0, 0, 2, 0).thread(2, 0, 0, 1, 3);
    }

    private static void places() {
        SweptGrants m = image().boot(2);
        int[][] due = {{0, 16, 16, 64}, {64, 96, 192, 192}, {192, 208, 208, 720}};
        for (int c = 0; c < due.length; c++) {
            for (int what = 0; what < 4; what++) {
                Check.due("compartment " + c + " " + what, m.compartment(c, what), due[c][what]);
            }
        }
        Check.due("stack 0", m.thread(0, 7), 720);
        Check.due("stack 1", m.thread(1, 7), 752);
        Check.due("heap", m.heap(0), 768);
        Check.due("heap's bytes", m.heap(4), 2048 - 768);
        Check.due("globals without places", m.register(0, 3, 1), 192);
        Check.due("their top", m.register(0, 3, 2), 192);
        Check.due("their tag", m.register(0, 3, 5), 1);
    }

    private static void imports() {
        SweptGrants m = image().boot(2);
        long[][] due = {
            {17, 0, 0, Asm.GLOBAL | 4 << 8},
            {8, 0, 0, Asm.GLOBAL | 6 << 8},
            {DEVICE, DEVICE, DEVICE + 16, Asm.GLOBAL | Asm.WRITE},
            {247, 247, 263, Asm.GLOBAL | Asm.SEAL},
            {16, 16, 64, Asm.GLOBAL | 19},
            {192, 192, 192, Asm.GLOBAL | 1}};
        for (int k = 0; k < due.length; k++) {
            for (int i = 0; i < 4; i++) {
                Check.due("import " + k + " word " + i, m.memory(96 + 16 * k + 4 * i, 4), due[k][i]);
            }
            Check.due("tag of import " + k, m.tag(6 + k), 1);
        }
        for (int g = 0; g < 128; g++) {
            Check.due("granule " + g, m.tag(g), g >= 6 && g < 12 ? 1 : 0);
        }
    }

    private static void code() {
        SweptGrants m = image().boot(2);
        long[] words = {1, 2, 3, 4};
        for (int i = 0; i < words.length; i++) {
            Check.due("word " + i, m.memory(4 * i, 4), words[i]);
        }
        Check.due("lowest byte first", m.memory(64, 1), 4);
        Check.due("its half", m.memory(66, 2), 0x0102);
        Check.due("the fifth", m.memory(80, 4), 9);
        for (int at = 84; at < 96; at += 4) {
            Check.due("filled with 0", m.memory(at, 4), 0);
        }
        Check.due("globals are 0", m.memory(208, 4), 0);
    }

    private static void wrong() {
        SweptGrants m = image().boot(2);
        int[][] cases = {{-1, 0}, {3, 0}, {8, 0}, {Integer.MAX_VALUE, 0}, {Integer.MIN_VALUE, 0},
            {0, -1}, {0, 4}, {0, Integer.MAX_VALUE}, {0, Integer.MIN_VALUE}};
        for (int[] one : cases) {
            Check.due("compartment " + one[0] + ", " + one[1], m.compartment(one[0], one[1]), -1);
        }
    }
}
