/** Promise 5, instruction 5B: what is made of capabilities, and never more than was given. */
public final class CapabilityTest {
    private static final int KEPT = -2;

    public static void main(String[] args) {
        cursors();
        narrower();
        upToTheLastWord();
        perms();
        sealing();
        unsealing();
        comparing();
        looking();
        entries();
        sameRegisters();
        Check.end();
    }

    /** Globals are 64 bytes; import 0 is SEAL of 8 .. 23, import 1 of 240 .. 255 and one more. */
    private static SweptGrants after(Code code) {
        SweptGrants m = Image.alone(code, Image.SEAL, 0, 16, Image.SEAL, 239, 16, Image.EXPORT, 0, 0,
            Image.SERVICE, 7, 0);
        m.run(code.here());
        Check.due("fault", m.thread(0, 4), 0);
        return m;
    }

    private static void is(String name, SweptGrants m, int k, long... due) {
        for (int what = 0; what < due.length; what++) {
            if (due[what] != KEPT) {
                Check.due(name + ": c" + k + " " + what, m.register(0, k, what), due[what]);
            }
        }
    }

    private static void cursors() {
        SweptGrants m = after(new Code().put(Asm.addi(5, 0, 100), Asm.derive(0, 4, 3, 5),
            Asm.derive(1, 6, 3, 5), Asm.move(7, 3, -2048), Asm.move(8, 3, 2047),
            Asm.move(9, 0, 5), Asm.derive(0, 10, 1, 0), Asm.move(11, 1, 0), Asm.derive(1, 12, 1, 5)));
        int globals = m.compartment(0, 2);
        is("sum", m, 4, globals + 100, globals, globals + 64, Asm.DATA, 0, 1);
        is("cursor", m, 6, 100, globals, globals + 64, Asm.DATA, 0, 1);
        is("wrap", m, 7, 0x100000000L + globals - 2048, globals, globals + 64, Asm.DATA, 0, 1);
        is("far", m, 8, globals + 2047, globals, globals + 64, Asm.DATA, 0, 1);
        is("of a number", m, 9, 5, 0, 0, 0, 0, 0);
        is("of a sealed one", m, 10, 0, 0, 0, 0, 5, 0);
        is("of a sealed one by 0", m, 11, 0, 0, 0, 0, 5, 0);
        is("cursor of a sealed one", m, 12, 100, 0, 0, 0, 5, 0);
    }

    /** The cursor is moved, then c6 narrowed. */
    private static void narrow(String name, int way, int size, int tag) {
        SweptGrants m = after(new Code().put(Asm.move(4, 3, way)).number(5, size)
            .put(Asm.derive(2, 6, 4, 5)));
        long base = m.compartment(0, 2) + way;
        is(name, m, 6, base, base, base + size & 0xFFFFFFFFL, Asm.DATA, 0, tag);
        if (size >= 0 && size < 2048) {
            m = after(new Code().put(Asm.move(4, 3, way), Asm.narrow(6, 4, size)).number(5, 1));
            is(name + " by I", m, 6, base, base, base + size, Asm.DATA, 0, tag);
        }
    }

    private static void narrower() {
        narrow("all", 0, 64, 1);
        narrow("one more", 0, 65, 0);
        narrow("nothing", 0, 0, 1);
        narrow("nothing at the top", 64, 0, 1);
        narrow("nothing behind the top", 65, 0, 0);
        narrow("middle", 13, 7, 1);
        narrow("to the top", 13, 51, 1);
        narrow("over the top", 13, 52, 0);
        narrow("below the base", -1, 10, 0);
        narrow("beyond 2^32", 16, -16, 0);
        narrow("all words", 0, -1, 0);
        SweptGrants m = after(new Code().put(Asm.narrow(6, 3, 4095), Asm.narrow(7, 1, 0)));
        int globals = m.compartment(0, 2);
        is("without sign", m, 6, globals, globals, globals + 4095, Asm.DATA, 0, 0);
        is("of a sealed one", m, 7, 0, 0, 0, 0, 5, 0);
        m = after(new Code().put(Asm.narrow(6, 3, 16), Asm.move(6, 6, 4), Asm.narrow(7, 6, 60)));
        is("never wider", m, 7, globals + 4, globals + 4, globals + 64, Asm.DATA, 0, 0);
        m = after(new Code().put(Asm.inspect(9, 6, 3), Asm.narrow(6, 6, 16)));
        is("no tag", m, 6, globals, globals, globals + 16, Asm.DATA, 0, 0);
    }

    /** The top is 2^32 less 1, 2^32, which wraps to 0, and one more. */
    private static void upToTheLastWord() {
        for (int more = -1; more <= 1; more++) {
            SweptGrants m = after(new Code().put(Asm.r(0x33, 0, 32, 5, 0, 3), Asm.addi(5, 5, more),
                Asm.derive(2, 6, 3, 5)));
            is("top " + more, m, 6, globals(m), globals(m), more & 0xFFFFFFFFL, Asm.DATA, 0, 0);
        }
        SweptGrants m = after(new Code().put(Asm.addi(4, 0, -1), Asm.addi(5, 0, 1),
            Asm.derive(2, 6, 4, 5), Asm.narrow(7, 4, 0)));
        is("a number's top wraps", m, 6, 0xFFFFFFFFL, 0xFFFFFFFFL, 0, 0, 0, 0);
        is("a number's bounds", m, 7, 0xFFFFFFFFL, 0xFFFFFFFFL, 0xFFFFFFFFL, 0, 0, 0);
    }

    private static void perms() {
        int[][] cases = {{0, 0}, {-1, Asm.DATA}, {0xF5, 0x51}, {0x1FF, Asm.DATA}, {0x700, 0}, {32, 0}};
        for (int[] one : cases) {
            SweptGrants m = after(new Code().put(Asm.addi(5, 0, one[0]), Asm.derive(3, 6, 3, 5),
                Asm.derive(3, 7, 1, 5)));
            int globals = m.compartment(0, 2);
            is("perms and " + one[0], m, 6, globals, globals, globals + 64, one[1], 0, 1);
            is("of a sealed one", m, 7, 0, 0, 0, 0, 5, 0);
        }
    }

    /** c4 is the seal by import k with that cursor; c6 is c3 sealed by it. */
    private static Code sealer(int k, int cursor) {
        return new Code().take(4, k).number(5, cursor).put(Asm.derive(1, 4, 4, 5));
    }

    private static void seals(String name, Code code, int a, int type, int tag) {
        SweptGrants m = after(code.put(Asm.derive(4, 6, a, 4)));
        is(name, m, 6, m.register(0, a, 0), m.register(0, a, 1), m.register(0, a, 2),
            m.register(0, a, 3), type, tag);
    }

    private static void sealing() {
        seals("8", sealer(0, 8), 3, 8, 1);
        seals("23", sealer(0, 23), 3, 23, 1);
        seals("24", sealer(0, 24), 3, 0, 0);
        seals("7", sealer(0, 7), 3, 0, 0);
        seals("-1", sealer(0, -1), 3, 0, 0);
        seals("247", sealer(1, 247), 3, 247, 1);
        seals("255", sealer(1, 255), 3, 255, 1);
        seals("256 is a place, but no type", sealer(1, 256), 3, 0, 0);
        seals("a number", sealer(0, 8), 5, 0, 0);
        seals("a return", sealer(0, 8), 1, 5, 0);
        seals("by one without tag", sealer(0, 8).put(Asm.inspect(9, 4, 4)), 3, 0, 0);
        seals("by one without SEAL",
            sealer(0, 8).put(Asm.addi(5, 0, 64), Asm.derive(3, 4, 4, 5)), 3, 0, 0);
        seals("by a sealed one", sealer(0, 8).put(Asm.derive(4, 4, 4, 4)), 3, 0, 0);
        seals("by a narrow one", sealer(0, 9).put(Asm.narrow(4, 4, 1)), 3, 9, 1);
        seals("by a narrower one", sealer(0, 9).put(Asm.narrow(4, 4, 0)), 3, 0, 0);
        SweptGrants m = after(sealer(0, 9).put(Asm.derive(4, 6, 3, 4), Asm.derive(4, 7, 6, 4)));
        is("a sealed one once more", m, 7, KEPT, KEPT, KEPT, Asm.DATA, 9, 0);
    }

    private static Code sealed() {
        return sealer(0, 9).put(Asm.derive(4, 6, 3, 4));
    }

    private static void unsealing() {
        SweptGrants m = after(sealed().put(Asm.derive(5, 7, 6, 4)));
        int globals = m.compartment(0, 2);
        is("again plain", m, 7, globals, globals, globals + 64, Asm.DATA, 0, 1);
        m = after(sealed().put(Asm.addi(5, 0, 32), Asm.derive(3, 8, 4, 5), Asm.derive(5, 7, 6, 8)));
        is("GLOBAL goes", m, 7, globals(m), globals(m), globals(m) + 64, 27, 0, 1);
        m = after(sealed().put(Asm.move(8, 4, 1), Asm.derive(5, 7, 6, 8)));
        is("other type", m, 7, globals(m), globals(m), globals(m) + 64, Asm.DATA, 9, 0);
        m = after(sealed().put(Asm.derive(5, 7, 3, 4)));
        is("of a plain one", m, 7, globals(m), globals(m), globals(m) + 64, Asm.DATA, 0, 0);
        m = after(sealed().put(Asm.inspect(9, 6, 6), Asm.derive(5, 7, 6, 4)));
        is("without tag", m, 7, KEPT, KEPT, KEPT, Asm.DATA, 9, 0);
        m = after(sealed().put(Asm.inspect(9, 8, 4), Asm.derive(5, 7, 6, 8)));
        is("by one without tag", m, 7, KEPT, KEPT, KEPT, Asm.DATA, 9, 0);
        m = after(sealed().put(Asm.addi(5, 0, 64), Asm.derive(3, 8, 4, 5), Asm.derive(5, 7, 6, 8)));
        is("by one without SEAL", m, 7, KEPT, KEPT, KEPT, Asm.DATA, 9, 0);
        m = after(sealed().put(Asm.narrow(8, 4, 0), Asm.derive(5, 7, 6, 8)));
        is("by one without places", m, 7, KEPT, KEPT, KEPT, Asm.DATA, 9, 0);
        m = after(sealed().put(Asm.addi(5, 0, 5), Asm.derive(1, 8, 4, 5), Asm.derive(5, 7, 1, 8)));
        is("a return", m, 7, 0, 0, 0, 0, 5, 0);
        m = after(sealed().put(Asm.addi(5, 0, 0), Asm.derive(1, 8, 4, 5), Asm.derive(5, 7, 3, 8)));
        is("a plain one by 0", m, 7, KEPT, KEPT, KEPT, Asm.DATA, 0, 0);
        m = after(sealed().put(Asm.derive(4, 8, 4, 4), Asm.derive(5, 7, 6, 8)));
        is("by a sealed one", m, 7, KEPT, KEPT, KEPT, Asm.DATA, 9, 0);
    }

    private static int globals(SweptGrants m) {
        return m.compartment(0, 2);
    }

    private static void compare(String name, int within, int like, int... words) {
        SweptGrants m = after(new Code().put(words).put(Asm.derive(6, 6, 3, 4),
            Asm.derive(7, 7, 3, 4)));
        is(name + " within", m, 6, within, 0, 0, 0, 0, 0);
        is(name + " like", m, 7, like, 0, 0, 0, 0, 0);
    }

    private static void comparing() {
        compare("itself", 1, 1, Asm.copy(4, 3));
        compare("other cursor", 1, 0, Asm.move(4, 3, 999));
        compare("narrow", 1, 0, Asm.narrow(4, 3, 63));
        compare("inner", 1, 0, Asm.move(4, 3, 1), Asm.narrow(4, 4, 63));
        compare("less perms", 1, 0, Asm.addi(5, 0, 1), Asm.derive(3, 4, 3, 5));
        compare("stack", 0, 0, Asm.copy(4, 2));
        compare("code", 0, 0, Asm.auipc(4, 0));
        compare("without tag", 0, 0, Asm.inspect(9, 4, 3));
        compare("narrower a", 0, 0, Asm.copy(4, 3), Asm.narrow(3, 3, 8));
        compare("a from 1 on", 0, 0, Asm.copy(4, 3), Asm.move(3, 3, 1), Asm.narrow(3, 3, 63));
        compare("less perms of a", 0, 0, Asm.copy(4, 3), Asm.addi(5, 0, 1), Asm.derive(3, 3, 3, 5));
        compare("numbers", 1, 1, Asm.addi(3, 0, 4), Asm.addi(4, 0, 4));
        compare("other numbers", 1, 0, Asm.addi(3, 0, 4), Asm.addi(4, 0, 5));
        compare("other types", 1, 0, Asm.auipc(3, 0), Asm.inspect(10, 4, 3));
        compare("bounds without sign", 1, 0, Asm.addi(5, 0, -1), Asm.storeWord(3, 5, 8),
            Asm.loadCap(4, 3, 0), Asm.copy(3, 4), Asm.addi(4, 0, 0));
    }

    private static void looking() {
        Code code = new Code().put(Asm.move(4, 3, 5));
        for (int selector = 0; selector <= 7; selector++) {
            code.put(Asm.inspect(selector, 8 + selector, 4));
        }
        SweptGrants m = after(code);
        int globals = globals(m);
        long[] due = {Asm.DATA, 0, globals, 64, 1, globals + 64, globals + 5, 1};
        for (int i = 0; i < due.length; i++) {
            is("selector " + i, m, 8 + i, due[i], 0, 0, 0, 0, 0);
        }
        m = after(new Code().put(Asm.inspect(1, 6, 1), Asm.inspect(4, 7, 9), Asm.inspect(7, 8, 0),
            Asm.copy(9, 1), Asm.inspect(9, 10, 1)));
        is("type", m, 6, 5);
        is("tag", m, 7, 0);
        is("interrupts", m, 8, 1);
        is("itself", m, 9, 0, 0, 0, 0, 5, 1);
        is("without tag", m, 10, 0, 0, 0, 0, 5, 0);
        m = after(new Code().put(Asm.addi(5, 0, 16), Asm.storeWord(3, 5, 4), Asm.loadCap(6, 3, 0),
            Asm.inspect(3, 7, 6)));
        is("top below base", m, 7, 0xFFFFFFF0L);
        Image off = new Image();
        off.part(0).export(0, 2).code(new Code().put(Asm.inspect(7, 8, 0)));
        m = off.thread(0, 0, 0, 1, 0).boot(1);
        m.run(1);
        is("interrupts off", m, 8, 0);
    }

    private static void entries() {
        for (int k = 1; k <= 3; k++) {
            SweptGrants m = after(new Code().put(Asm.auipc(4, 0), Asm.inspect(9 + k, 6, 4),
                Asm.inspect(9 + k, 7, 3), Asm.inspect(9 + k, 8, 6), Asm.inspect(9, 5, 4),
                Asm.inspect(9 + k, 9, 5)));
            is("entry", m, 6, 0, 0, m.compartment(0, 2), Asm.CODE, k, 1);
            is("without RUN", m, 7, globals(m), globals(m), globals(m) + 64, Asm.DATA, 0, 0);
            is("entry once more", m, 8, 0, 0, m.compartment(0, 2), Asm.CODE, k, 0);
            is("without tag", m, 9, 0, 0, m.compartment(0, 2), Asm.CODE, 0, 0);
        }
    }

    /** The result's register may be an operand's. */
    private static void sameRegisters() {
        SweptGrants m = after(new Code().put(Asm.addi(5, 0, 3), Asm.derive(0, 5, 3, 5),
            Asm.derive(1, 3, 3, 3)));
        int globals = globals(m);
        is("d is b", m, 5, globals + 3, globals, globals + 64, Asm.DATA, 0, 1);
        is("all one", m, 3, globals, globals, globals + 64, Asm.DATA, 0, 1);
        m = after(new Code().put(Asm.addi(5, 0, 8), Asm.derive(2, 5, 3, 5), Asm.storeCap(3, 5, 0),
            Asm.loadCap(3, 3, 0)));
        is("load over the authority", m, 3, globals, globals, globals + 8, Asm.DATA, 0, 1);
        m = after(sealer(0, 9).put(Asm.copy(6, 3), Asm.derive(4, 4, 6, 4)));
        is("sealed over the seal", m, 4, globals(m), globals(m), globals(m) + 64, Asm.DATA, 9, 1);
        m = after(new Code().put(Asm.derive(7, 3, 3, 3)));
        is("answer over an operand", m, 3, 1, 0, 0, 0, 0, 0);
    }
}
