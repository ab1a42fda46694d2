/** The instruction words of the document. */
final class Asm {
    static final int READ = 1;
    static final int WRITE = 2;
    static final int RUN = 4;
    static final int TAKE = 8;
    static final int GIVE = 16;
    static final int SEAL = 32;
    static final int GLOBAL = 64;
    static final int LOCAL = 128;

    static final int DATA = READ | WRITE | TAKE | GIVE | GLOBAL;
    static final int STACK = READ | WRITE | TAKE | GIVE | LOCAL;
    static final int CODE = READ | RUN | TAKE | GLOBAL;

    private Asm() {
    }

    static int r(int op, int f, int g, int d, int a, int b) {
        return op | d << 7 | f << 12 | a << 15 | b << 20 | g << 25;
    }

    static int i(int op, int f, int d, int a, int number) {
        return op | d << 7 | f << 12 | a << 15 | number << 20;
    }

    static int lui(int d, int upper) {
        return 0x37 | d << 7 | upper & 0xFFFFF000;
    }

    static int auipc(int d, int upper) {
        return 0x17 | d << 7 | upper & 0xFFFFF000;
    }

    static int jal(int d, int way) {
        return 0x6F | d << 7 | (way >> 20 & 1) << 31 | (way >> 12 & 255) << 12
            | (way >> 11 & 1) << 20 | (way >> 1 & 1023) << 21;
    }

    static int branch(int f, int a, int b, int way) {
        return 0x63 | f << 12 | a << 15 | b << 20 | (way >> 12 & 1) << 31 | (way >> 11 & 1) << 7
            | (way >> 5 & 63) << 25 | (way >> 1 & 15) << 8;
    }

    static int addi(int d, int a, int number) {
        return i(0x13, 0, d, a, number);
    }

    static int load(int f, int d, int a, int offset) {
        return i(0x03, f, d, a, offset);
    }

    static int store(int f, int a, int b, int offset) {
        return 0x23 | (offset & 31) << 7 | f << 12 | a << 15 | b << 20 | (offset >> 5) << 25;
    }

    static int loadWord(int d, int a, int offset) {
        return load(2, d, a, offset);
    }

    static int loadCap(int d, int a, int offset) {
        return load(3, d, a, offset);
    }

    static int storeWord(int a, int b, int offset) {
        return store(2, a, b, offset);
    }

    static int storeCap(int a, int b, int offset) {
        return store(3, a, b, offset);
    }

    static int jalr(int d, int a, int offset) {
        return i(0x67, 0, d, a, offset);
    }

    /** 5B f 0. */
    static int derive(int g, int d, int a, int b) {
        return r(0x5B, 0, g, d, a, b);
    }

    /** 5B f 1. */
    static int inspect(int selector, int d, int a) {
        return r(0x5B, 1, 0, d, a, selector);
    }

    static int copy(int d, int a) {
        return inspect(8, d, a);
    }

    /** 5B f 2. */
    static int move(int d, int a, int way) {
        return i(0x5B, 2, d, a, way);
    }

    /** 5B f 3. */
    static int narrow(int d, int a, int size) {
        return i(0x5B, 3, d, a, size);
    }
}
