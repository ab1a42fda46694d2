/** Promise 5, instructions over numbers: 37, 17, 6F, 63, 13, 33, and what is ILLEGAL. */
public final class NumbersTest {
    private static final int LEAST = Integer.MIN_VALUE;
    private static final int MOST = Integer.MAX_VALUE;

    public static void main(String[] args) {
        upper();
        immediates();
        registers();
        products();
        quotients();
        branches();
        jumps();
        zeroRegister();
        resultsAreNumbers();
        illegal();
        illegalComesFirst();
        Check.end();
    }

    private static long unsigned(int value) {
        return value & 0xFFFFFFFFL;
    }

    /** c4 and c5 are x and y, then one instruction. */
    private static void gives(String name, int word, int x, int y, int due) {
        SweptGrants m = Image.alone(new Code().number(4, x).number(5, y).put(word).back());
        Check.due("run", m.run(5), 5);
        Check.due(name + " of " + x + ", " + y, m.register(0, 6, 0), unsigned(due));
        Check.due(name + ": done", m.thread(0, 5), 5);
    }

    private static void upper() {
        gives("lui", Asm.lui(6, 0x12345000), 0, 0, 0x12345000);
        gives("lui", Asm.lui(6, 0xFFFFF000), 0, 0, 0xFFFFF000);
        SweptGrants m = Image.alone(new Code().put(Asm.addi(0, 0, 0), Asm.auipc(7, 0x80001000)));
        m.run(2);
        long[] due = {0x80001004L, 0, m.compartment(0, 2), Asm.CODE, 0, 1};
        for (int what = 0; what < due.length; what++) {
            Check.due("auipc " + what, m.register(0, 7, what), due[what]);
        }
    }

    private static void immediate(String name, int f, int number, int x, int due) {
        gives(name, Asm.i(0x13, f, 6, 4, number), x, 0, due);
    }

    private static void immediates() {
        immediate("addi", 0, 5, 7, 12);
        immediate("addi", 0, -2048, 0, -2048);
        immediate("addi", 0, 2047, MOST, LEAST + 2046);
        immediate("addi with g 32", 0, 0x400, 1, 0x401);
        immediate("slti", 2, -1, -2, 1);
        immediate("slti", 2, -1, -1, 0);
        immediate("slti", 2, 3, LEAST, 1);
        immediate("sltiu", 3, -1, 5, 1);
        immediate("sltiu", 3, -1, -1, 0);
        immediate("sltiu", 3, 3, LEAST, 0);
        immediate("xori", 4, -1, 0x0F0F0F0F, 0xF0F0F0F0);
        immediate("ori", 6, -2048, 1, -2047);
        immediate("andi", 7, -16, 0x12345678, 0x12345670);
        immediate("andi", 7, 255, 0x12345678, 0x78);
        immediate("slli", 1, 0, 0x81, 0x81);
        immediate("slli", 1, 31, 3, LEAST);
        immediate("slli", 1, 17, 1, 1 << 17);
        immediate("srli", 5, 31, -1, 1);
        immediate("srli", 5, 4, LEAST, 0x08000000);
        immediate("srai", 5, 0x400 | 31, -1, -1);
        immediate("srai", 5, 0x400 | 4, LEAST, 0xF8000000);
        immediate("srai", 5, 0x400 | 16, MOST, 0x7FFF);
    }

    private static void register(String name, int f, int g, int x, int y, int due) {
        gives(name, Asm.r(0x33, f, g, 6, 4, 5), x, y, due);
    }

    private static void registers() {
        register("add", 0, 0, MOST, 1, LEAST);
        register("sub", 0, 32, LEAST, 1, MOST);
        register("sub", 0, 32, 3, 5, -2);
        register("sll", 1, 0, 1, 33, 2);
        register("sll", 1, 0, 3, 31, LEAST);
        register("sll by 32", 1, 0, 3, 32, 3);
        register("sll by the least", 1, 0, 3, LEAST, 3);
        register("slt", 2, 0, LEAST, MOST, 1);
        register("slt", 2, 0, MOST, LEAST, 0);
        register("slt", 2, 0, 4, 4, 0);
        register("sltu", 3, 0, LEAST, MOST, 0);
        register("sltu", 3, 0, MOST, LEAST, 1);
        register("sltu", 3, 0, 4, 4, 0);
        register("xor", 4, 0, 0x0FF0, 0x00FF, 0x0F0F);
        register("srl", 5, 0, LEAST, 36, 0x08000000);
        register("srl", 5, 0, -1, -1, 1);
        register("srl by 32", 5, 0, -8, 32, -8);
        register("sra by 32", 5, 32, -8, 32, -8);
        register("sra by 31", 5, 32, LEAST, 31, -1);
        register("sra", 5, 32, LEAST, 36, 0xF8000000);
        register("sra", 5, 32, -8, 1, -4);
        register("or", 6, 0, 0x0FF0, 0x00FF, 0x0FFF);
        register("and", 7, 0, 0x0FF0, 0x00FF, 0x00F0);
    }

    private static void products() {
        register("mul", 0, 1, 70000, 70000, 605032704);
        register("mul", 0, 1, -3, 5, -15);
        register("mulh", 1, 1, 70000, 70000, 1);
        register("mulh", 1, 1, -1, 1, -1);
        register("mulh", 1, 1, LEAST, LEAST, 0x40000000);
        register("mulhsu", 2, 1, -1, -1, -1);
        register("mulhsu", 2, 1, LEAST, -1, LEAST);
        register("mulhsu", 2, 1, 2, -1, 1);
        register("mulhu", 3, 1, -1, -1, -2);
        register("mulhu", 3, 1, LEAST, 2, 1);
    }

    private static void quotients() {
        register("div", 4, 1, 7, -2, -3);
        register("div", 4, 1, -7, 2, -3);
        register("div", 4, 1, 7, 0, -1);
        register("div", 4, 1, LEAST, -1, LEAST);
        register("divu", 5, 1, -1, 2, MOST);
        register("divu", 5, 1, 7, 0, -1);
        register("divu", 5, 1, LEAST, -1, 0);
        register("rem", 6, 1, -7, 2, -1);
        register("rem", 6, 1, 7, -2, 1);
        register("rem", 6, 1, -7, 0, -7);
        register("rem", 6, 1, LEAST, -1, 0);
        register("remu", 7, 1, -1, 16, 15);
        register("remu", 7, 1, -7, 0, -7);
        register("remu", 7, 1, LEAST, -1, LEAST);
    }

    private static void branch(int f, int x, int y, boolean due) {
        Code code = new Code().number(4, x).number(5, y).put(Asm.branch(f, 4, 5, 12))
            .put(Asm.addi(6, 0, 1), Asm.jal(0, 8), Asm.addi(6, 0, 2)).back();
        SweptGrants m = Image.alone(code);
        m.run(6);
        Check.due("branch " + f + " of " + x + ", " + y, m.register(0, 6, 0), due ? 2 : 1);
    }

    private static void branches() {
        int[][] pairs = {{3, 3}, {3, 4}, {4, 3}, {-1, 1}, {1, -1}, {LEAST, MOST}, {MOST, LEAST}};
        for (int[] one : pairs) {
            int x = one[0];
            int y = one[1];
            branch(0, x, y, x == y);
            branch(1, x, y, x != y);
            branch(4, x, y, x < y);
            branch(5, x, y, x >= y);
            branch(6, x, y, unsigned(x) < unsigned(y));
            branch(7, x, y, unsigned(x) >= unsigned(y));
        }
        for (int way : new int[] {-4096, -2048, -2, 2, 16, 32, 1024, 2048, 4094}) {
            SweptGrants m = Image.alone(new Code().put(Asm.addi(0, 0, 0), Asm.branch(0, 0, 0, way)));
            m.run(2);
            Check.due("branch by " + way, m.register(0, 16, 0), unsigned(4 + way));
        }
    }

    private static void jumps() {
        for (int way : new int[] {-1048576, -4096, -2, 2, 1024, 2048, 4096, 524288, 1048574}) {
            SweptGrants m = Image.alone(new Code().put(Asm.addi(0, 0, 0), Asm.jal(7, way)));
            m.run(2);
            Check.due("jump by " + way, m.register(0, 16, 0), unsigned(4 + way));
            long[] link = {8, 0, m.compartment(0, 2), Asm.CODE, 3, 1};
            for (int what = 0; what < link.length; what++) {
                Check.due("link " + what, m.register(0, 7, what), link[what]);
            }
        }
        Image off = new Image();
        off.part(0).export(0, 2).code(new Code().put(Asm.jal(7, 8), 0, Asm.jal(0, 0)));
        SweptGrants m = off.thread(0, 0, 0, 1, 0).boot(1);
        m.run(1);
        Check.due("link with interrupts off", m.register(0, 7, 4), 2);
        m.run(3);
        Check.due("no link in c0", m.register(0, 0, 5), 0);
    }

    private static void zeroRegister() {
        int[] words = {Asm.lui(0, 0x1000), Asm.auipc(0, 0x1000), Asm.addi(0, 0, 9), Asm.copy(0, 3),
            Asm.loadCap(0, 2, -16), Asm.jal(0, 4), Asm.r(0x33, 0, 0, 0, 3, 3), Asm.narrow(0, 3, 4)};
        for (int word : words) {
            SweptGrants m = Image.alone(new Code().put(word).put(Asm.addi(4, 0, 7)));
            m.run(2);
            for (int what = 0; what < 6; what++) {
                Check.due("c0 " + what, m.register(0, 0, what), 0);
            }
            Check.due("its number", m.register(0, 4, 0), 7);
        }
    }

    /** A capability's number is its cursor, and a sum of it is no capability. */
    private static void resultsAreNumbers() {
        SweptGrants m = Image.alone(new Code().put(Asm.addi(4, 3, 4), Asm.r(0x33, 0, 0, 2, 2, 3)));
        m.run(2);
        int globals = m.compartment(0, 2);
        long[] due = {globals + 4, 0, 0, 0, 0, 0};
        for (int what = 0; what < 6; what++) {
            Check.due("c4 " + what, m.register(0, 4, what), due[what]);
        }
        Check.due("c2 cursor", m.register(0, 2, 0), globals + m.thread(0, 7) + 64);
        Check.due("c2 tag", m.register(0, 2, 5), 0);
        Check.due("c3 stays", m.register(0, 3, 5), 1);
    }

    private static void legal(String name, int word, boolean due) {
        SweptGrants m = Image.alone(new Code().put(word, word, word, word));
        m.run(1);
        boolean found = m.thread(0, 4) == 6;
        Check.due(name + " " + Integer.toHexString(word) + " is legal", !found, due);
        Check.due("done", m.thread(0, 5), m.thread(0, 4) == 0 ? 1 : 0);
    }

    private static void illegal() {
        int[] ops = {0x37, 0x17, 0x6F, 0x63, 0x13, 0x33, 0x03, 0x23, 0x5B, 0x67};
        for (int op = 0; op < 128; op++) {
            boolean known = false;
            for (int one : ops) {
                known |= one == op;
            }
            legal("op", op, known);
        }
        for (int f = 0; f < 8; f++) {
            legal("branch f", Asm.branch(f, 0, 0, 4), f != 2 && f != 3);
            legal("13 f", Asm.i(0x13, f, 4, 4, 0), true);
            legal("03 f", Asm.load(f, 4, 3, 0), f < 6);
            legal("23 f", Asm.store(f, 3, 4, 0), f < 4);
            legal("67 f", Asm.i(0x67, f, 4, 4, 0), f == 0);
            legal("5B f", Asm.i(0x5B, f, 4, 4, 0), f < 4);
        }
        for (int g = 0; g < 128; g++) {
            legal("13 f 1 g", Asm.r(0x13, 1, g, 4, 4, 31), g == 0);
            legal("13 f 5 g", Asm.r(0x13, 5, g, 4, 4, 31), g == 0 || g == 32);
            legal("13 f 0 g", Asm.r(0x13, 0, g, 4, 4, 31), true);
            legal("33 f 0 g", Asm.r(0x33, 0, g, 4, 4, 4), g < 2 || g == 32);
            legal("33 f 5 g", Asm.r(0x33, 5, g, 4, 4, 4), g < 2 || g == 32);
            legal("33 f 7 g", Asm.r(0x33, 7, g, 4, 4, 4), g < 2);
            legal("5B f 0 g", Asm.r(0x5B, 0, g, 4, 4, 4), g < 8);
            legal("5B f 1 g", Asm.r(0x5B, 1, g, 4, 4, 4), g == 0);
            legal("5B f 2 g", Asm.r(0x5B, 2, g, 4, 4, 31), true);
            legal("5B f 3 g", Asm.r(0x5B, 3, g, 4, 4, 31), true);
        }
        for (int f : new int[] {1, 2, 3, 4, 6, 7}) {
            legal("33 g 32", Asm.r(0x33, f, 32, 4, 4, 4), false);
        }
        for (int k = 0; k < 32; k++) {
            registersAbove(k);
        }
    }

    /** c4 is NULL and would be fault 1; the next one is out of bounds. */
    private static void illegalComesFirst() {
        int[] words = {Asm.load(6, 7, 4, 0), Asm.load(7, 7, 4, 0), Asm.load(2, 16, 4, 0),
            Asm.store(4, 4, 7, 0), Asm.store(2, 4, 16, 0), Asm.i(0x67, 1, 7, 4, 0),
            Asm.jalr(16, 4, 0), Asm.load(6, 7, 3, -4), Asm.store(7, 3, 7, 1)};
        for (int word : words) {
            legal("ahead of other faults", word, false);
        }
    }

    private static void registersAbove(int k) {
        boolean right = k < 16;
        legal("37 d", Asm.lui(k, 0), right);
        legal("17 d", Asm.auipc(k, 0), right);
        legal("6F d", Asm.jal(k, 0), right);
        legal("63 a", Asm.branch(0, k, 0, 4), right);
        legal("63 b", Asm.branch(0, 0, k, 4), right);
        legal("13 d", Asm.addi(k, 0, 1), right);
        legal("13 a", Asm.addi(4, k, 1), right);
        legal("13 b", Asm.r(0x13, 1, 0, 4, 4, k), true);
        legal("33 d", Asm.r(0x33, 0, 0, k, 4, 4), right);
        legal("33 a", Asm.r(0x33, 0, 0, 4, k, 4), right);
        legal("33 b", Asm.r(0x33, 0, 0, 4, 4, k), right);
        legal("03 d", Asm.load(2, k, 3, 0), right);
        legal("03 a", Asm.load(2, 4, k, 0), right);
        legal("23 a", Asm.store(2, k, 4, 0), right);
        legal("23 b", Asm.store(2, 3, k, 0), right);
        legal("5B d", Asm.derive(0, k, 4, 4), right);
        legal("5B a", Asm.derive(0, 4, k, 4), right);
        legal("5B b", Asm.derive(0, 4, 4, k), right);
        legal("5B f 1 d", Asm.inspect(0, k, 4), right);
        legal("5B f 1 a", Asm.inspect(0, 4, k), right);
        legal("5B f 1 b", Asm.inspect(k, 4, 4), k <= 12);
        legal("5B f 2 a", Asm.move(4, k, 4), right);
        legal("5B f 3 d", Asm.narrow(k, 4, 4), right);
        legal("67 d", Asm.jalr(k, 4, 0), right);
        legal("67 a", Asm.jalr(4, k, 0), right);
    }
}
