/** Promise 5, instructions over memory: authorities, 03 and 23, and PCC's own faults. */
public final class AuthorityTest {
    private static final int TAG = 1;
    private static final int SEALED = 2;
    private static final int PERMIT = 3;
    private static final int BOUNDS = 4;
    private static final int ALIGN = 5;

    public static void main(String[] args) {
        sizesAndSigns();
        storesClearTags();
        faultsInOrder();
        bounds();
        farthestOffsets();
        addressesWrap();
        capabilitiesInMemory();
        takeAndGive();
        localAndGlobal();
        ownFaults();
        faultChangesNothing();
        Check.end();
    }

    /** c4 is the word in the globals, c6 what is loaded. */
    private static void loads(int f, int offset, long due) {
        Code code = new Code().number(4, 0x8091A2F3).put(Asm.storeWord(3, 4, 8))
            .put(Asm.load(f, 6, 3, 8 + offset));
        SweptGrants m = Image.alone(code);
        m.run(4);
        Check.due("load " + f + " at " + offset, m.register(0, 6, 0), due);
        Check.due("tag", m.register(0, 6, 5), 0);
    }

    private static void sizesAndSigns() {
        loads(0, 0, 0xFFFFFFF3L);
        loads(0, 1, 0xFFFFFFA2L);
        loads(0, 3, 0xFFFFFF80L);
        loads(1, 0, 0xFFFFA2F3L);
        loads(1, 2, 0xFFFF8091L);
        loads(2, 0, 0x8091A2F3L);
        loads(4, 2, 0x91);
        loads(5, 0, 0xA2F3);
        loads(5, 2, 0x8091);
        Code code = new Code().number(4, 0x11223344).put(Asm.storeWord(3, 4, 0))
            .put(Asm.store(1, 3, 4, 6), Asm.store(0, 3, 4, 9), Asm.store(0, 3, 4, 2));
        SweptGrants m = Image.alone(code);
        m.run(6);
        int globals = m.compartment(0, 2);
        Check.due("word with a byte", m.memory(globals, 4), 0x11443344);
        Check.due("half", m.memory(globals + 4, 4), 0x33440000);
        Check.due("byte", m.memory(globals + 8, 4), 0x4400);
        Code far = new Code().put(Asm.move(4, 3, 40), Asm.addi(5, 0, 77), Asm.storeWord(4, 5, -40),
            Asm.loadWord(6, 4, -40), Asm.move(4, 3, 4), Asm.storeWord(4, 5, 56));
        m = Image.alone(far);
        m.run(6);
        Check.due("offset below 0", m.register(0, 6, 0), 77);
        Check.due("offset above 31", m.memory(globals(m) + 60, 4), 77);
    }

    private static int globals(SweptGrants m) {
        return m.compartment(0, 2);
    }

    private static void storesClearTags() {
        for (int f = 0; f <= 2; f++) {
            for (int offset : new int[] {0, 4, 12}) {
                Code code = new Code().put(Asm.storeCap(3, 3, 16), Asm.storeCap(3, 3, 32),
                    Asm.store(f, 3, 0, 16 + offset), Asm.loadCap(6, 3, 16));
                SweptGrants m = Image.alone(code);
                m.run(2);
                Check.due("tag", m.tag(globals(m) / 16 + 1), 1);
                m.run(2);
                Check.due("tag behind store " + f, m.tag(globals(m) / 16 + 1), 0);
                Check.due("tag of the next", m.tag(globals(m) / 16 + 2), 1);
                Check.due("what is loaded", m.register(0, 6, 5), 0);
            }
        }
    }

    /** The words make c4, and the last one must fail so. */
    private static void fails(String name, int fault, int last, int... words) {
        SweptGrants m = Image.alone(new Code().put(words).put(last), Image.DEVICE, 3, 0,
            Image.SEAL, 0, 16);
        m.run(words.length);
        Check.due(name + ": no fault before", m.thread(0, 4), 0);
        m.run(1);
        Check.due(name, m.thread(0, 4), fault);
        Check.due(name + ": state", m.thread(0, 0), fault == 0 ? 0 : 3);
        Check.due(name + ": faults", m.count(2), fault == 0 ? 0 : 1);
        Check.due(name + ": done", m.thread(0, 5), words.length + (fault == 0 ? 1 : 0));
    }

    private static void faultsInOrder() {
        int load = Asm.loadWord(6, 4, 0);
        int store = Asm.storeWord(4, 0, 0);
        fails("null", TAG, load);
        fails("number", TAG, store, Asm.addi(4, 0, 16));
        fails("without tag", TAG, load, Asm.inspect(9, 4, 3));
        fails("entry", SEALED, load, Asm.auipc(5, 0), Asm.inspect(10, 4, 5));
        fails("return", SEALED, load, Asm.copy(4, 1));
        fails("no read", PERMIT, load, Asm.addi(5, 0, 2), Asm.derive(3, 4, 3, 5));
        fails("no write", PERMIT, store, Asm.addi(5, 0, 1), Asm.derive(3, 4, 3, 5));
        fails("code", PERMIT, store, Asm.auipc(4, 0));
        fails("code may be read", 0, load, Asm.auipc(4, 0));
        fails("tag before sealed", TAG, load, Asm.auipc(5, 0), Asm.inspect(10, 4, 5),
            Asm.inspect(9, 4, 4));
        fails("sealed before permit", SEALED, load, Asm.copy(4, 1));
        fails("permit before bounds", PERMIT, load, Asm.addi(5, 0, 2), Asm.derive(3, 4, 3, 5),
            Asm.move(4, 4, -1));
        fails("bounds before align", BOUNDS, load, Asm.move(4, 3, 61));
        fails("align", ALIGN, load, Asm.move(4, 3, 1));
        fails("align of a word", ALIGN, store, Asm.move(4, 3, 2));
        fails("align of a half", ALIGN, Asm.load(1, 6, 4, 1), Asm.copy(4, 3));
        fails("align of a half without sign", ALIGN, Asm.load(5, 6, 4, 1), Asm.copy(4, 3));
        fails("half", 0, Asm.store(1, 4, 0, 2), Asm.copy(4, 3));
        fails("align of a capability", ALIGN, Asm.loadCap(6, 4, 8), Asm.copy(4, 3));
        fails("align of a capability", ALIGN, Asm.storeCap(4, 3, 8), Asm.copy(4, 3));
        fails("illegal before tag", 6, Asm.load(6, 6, 4, 0));
    }

    private static void bounds() {
        int last = Asm.move(4, 3, 60);
        fails("last word", 0, Asm.loadWord(6, 4, 0), last);
        fails("behind it", BOUNDS, Asm.loadWord(6, 4, 4), last);
        fails("half in it", BOUNDS, Asm.load(1, 6, 4, 4), last);
        fails("last byte", 0, Asm.load(0, 6, 4, 3), last);
        fails("byte behind", BOUNDS, Asm.load(0, 6, 4, 4), last);
        fails("below", BOUNDS, Asm.storeWord(3, 0, -4));
        fails("last capability", 0, Asm.loadCap(6, 3, 48));
        fails("capability behind", BOUNDS, Asm.loadCap(6, 3, 64));
        fails("capability that is partly in", BOUNDS, Asm.loadCap(6, 4, -8), last);
        fails("narrow", BOUNDS, Asm.loadWord(6, 4, 4), Asm.narrow(4, 3, 7));
        fails("wrap", BOUNDS, Asm.loadWord(6, 4, 0), Asm.lui(5, 0xFFFFF000),
            Asm.derive(0, 4, 3, 5));
        fails("no places", BOUNDS, Asm.load(0, 6, 4, 0), Asm.narrow(4, 3, 0));
        fails("end of all", BOUNDS, Asm.load(0, 6, 4, 0), Asm.addi(5, 0, -1),
            Asm.derive(1, 4, 3, 5));
    }

    /** I and S are -2048 .. 2047: the byte there is written by one and read by the other. */
    private static void farthestOffsets() {
        for (int offset : new int[] {-2048, -2047, -1, 0, 31, 32, 2046, 2047}) {
            Code code = new Code().number(5, -offset).put(Asm.derive(0, 4, 3, 5), Asm.addi(6, 0, 99),
                Asm.store(0, 4, 6, offset), Asm.load(4, 7, 4, offset));
            SweptGrants m = Image.alone(code);
            m.run(code.here());
            Check.due("written at " + offset, m.memory(globals(m), 1), 99);
            Check.due("read at " + offset, m.register(0, 7, 0), 99);
        }
    }

    /** A cursor below 0 is far above all; with what is added it comes to the globals again. */
    private static void addressesWrap() {
        int globals = globals(Image.alone(new Code().put(0, 0, 0, 0, 0, 0)));
        Code code = new Code().put(Asm.addi(5, 0, -4), Asm.derive(1, 4, 3, 5),
            Asm.storeWord(4, 5, globals + 8), Asm.loadWord(6, 4, globals + 8),
            Asm.load(1, 7, 4, globals + 10), Asm.loadWord(8, 4, 0));
        SweptGrants m = Image.alone(code);
        m.run(5);
        Check.due("written", m.memory(globals + 4, 4), 0xFFFFFFFCL);
        Check.due("read", m.register(0, 6, 0), 0xFFFFFFFCL);
        Check.due("read", m.register(0, 7, 0), 0xFFFFFFFFL);
        m.run(1);
        Check.due("the last word of all", m.thread(0, 4), BOUNDS);
        fails("over the end of all", BOUNDS, Asm.loadCap(6, 4, -16), Asm.addi(5, 0, 0),
            Asm.derive(1, 4, 3, 5));
        fails("a word over the end of all", BOUNDS, Asm.loadWord(6, 4, -2), Asm.addi(5, 0, 0),
            Asm.derive(1, 4, 3, 5));
    }

    private static void capabilitiesInMemory() {
        Code code = new Code().put(Asm.move(4, 3, 20), Asm.narrow(4, 4, 9), Asm.storeCap(3, 4, 32),
            Asm.loadCap(6, 3, 32), Asm.storeCap(3, 1, 48), Asm.loadCap(7, 3, 48));
        SweptGrants m = Image.alone(code);
        m.run(6);
        int globals = globals(m);
        long[] due = {globals + 20, globals + 20, globals + 29, Asm.DATA, 0, 1};
        for (int what = 0; what < 6; what++) {
            Check.due("c6 " + what, m.register(0, 6, what), due[what]);
        }
        for (int i = 0; i < 4; i++) {
            Check.due("word " + i, m.memory(globals + 32 + 4 * i, 4), due[i]);
        }
        Check.due("tag", m.tag(globals / 16 + 2), 1);
        Check.due("type in memory", m.memory(globals + 48 + 12, 4), 5 * 256);
        Check.due("without GLOBAL", m.tag(globals / 16 + 3), 0);
        Check.due("its type", m.register(0, 7, 4), 5);
        Check.due("its tag", m.register(0, 7, 5), 0);
        Code bytes = new Code().put(Asm.addi(5, 0, -1), Asm.storeWord(3, 5, 12),
            Asm.loadCap(6, 3, 0));
        m = Image.alone(bytes);
        m.run(3);
        Check.due("perms of bytes", m.register(0, 6, 3), 255);
        Check.due("type of bytes", m.register(0, 6, 4), 255);
        Check.due("tag of bytes", m.register(0, 6, 5), 0);
    }

    /** c4 is the globals with less perms; c7 what comes through them. */
    private static void through(String name, int perms, boolean writes, int due) {
        Code code = new Code().put(Asm.addi(5, 0, perms), Asm.derive(3, 4, 3, 5));
        if (writes) {
            code.put(Asm.storeCap(4, 3, 16), Asm.loadCap(7, 3, 16));
        } else {
            code.put(Asm.storeCap(3, 3, 16), Asm.loadCap(7, 4, 16));
        }
        SweptGrants m = Image.alone(code);
        m.run(4);
        Check.due(name + ": fault", m.thread(0, 4), 0);
        Check.due(name + ": tag", m.register(0, 7, 5), due);
        Check.due(name + ": base", m.register(0, 7, 1), globals(m));
        Check.due(name + ": granule", m.tag(globals(m) / 16 + 1), writes ? due : 1);
    }

    private static void takeAndGive() {
        through("TAKE", Asm.READ | Asm.TAKE, false, 1);
        through("no TAKE", Asm.READ | Asm.WRITE | Asm.GIVE | Asm.GLOBAL, false, 0);
        through("GIVE", Asm.WRITE | Asm.GIVE, true, 1);
        through("no GIVE", Asm.READ | Asm.WRITE | Asm.TAKE | Asm.GLOBAL, true, 0);
    }

    private static void localAndGlobal() {
        Code code = new Code().put(Asm.storeCap(3, 2, 0), Asm.storeCap(2, 2, -16),
            Asm.storeCap(2, 3, -32), Asm.addi(5, 0, 27), Asm.derive(3, 4, 3, 5),
            Asm.storeCap(3, 4, 16), Asm.storeCap(2, 4, -48));
        SweptGrants m = Image.alone(code);
        m.run(7);
        int globals = globals(m) / 16;
        int top = m.thread(0, 7) / 16 + 4;
        Check.due("stack to globals", m.tag(globals), 0);
        Check.due("stack to stack", m.tag(top - 1), 1);
        Check.due("globals to stack", m.tag(top - 2), 1);
        Check.due("one without GLOBAL to globals", m.tag(globals + 1), 0);
        Check.due("one without GLOBAL to stack", m.tag(top - 3), 1);
        Code less = new Code().put(Asm.addi(5, 0, 27), Asm.derive(3, 4, 2, 5),
            Asm.storeCap(4, 2, -16), Asm.storeCap(4, 3, -32));
        m = Image.alone(less);
        m.run(4);
        top = m.thread(0, 7) / 16 + 4;
        Check.due("stack without LOCAL", m.tag(top - 1), 0);
        Check.due("GLOBAL by it", m.tag(top - 2), 1);
        m = Image.alone(new Code().put(Asm.addi(5, 0, Asm.WRITE | Asm.GIVE | Asm.LOCAL),
            Asm.derive(3, 4, 2, 5), Asm.storeCap(4, 2, -16)));
        m.run(3);
        Check.due("stack without READ", m.tag(m.thread(0, 7) / 16 + 3), 1);
    }

    private static void ownFaults() {
        fails("behind the code", BOUNDS, Asm.addi(0, 0, 0), Asm.jal(0, 16 * 200));
        fails("below", BOUNDS, Asm.addi(0, 0, 0), Asm.jal(0, -4));
        fails("not aligned", ALIGN, Asm.addi(0, 0, 0), Asm.jal(0, 2));
        fails("bounds before align", BOUNDS, Asm.addi(0, 0, 0), Asm.jal(0, -2));
        fails("imports are run", 6, 0, Asm.jal(0, 16));
        SweptGrants m = Image.alone(new Code().put(Asm.auipc(4, 0), Asm.narrow(4, 4, 4),
            Asm.jalr(0, 4, 0)));
        m.run(3);
        Check.due("top of PCC", m.register(0, 16, 2), 4);
        m.run(1);
        Check.due("first word once more", m.thread(0, 4), 0);
        m.run(1);
        Check.due("behind PCC", m.thread(0, 4), BOUNDS);
        m = Image.alone(new Code().put(Asm.addi(5, 0, Asm.RUN), Asm.auipc(4, 0),
            Asm.derive(3, 4, 4, 5), Asm.jalr(0, 4, 12), Asm.addi(6, 0, 8)));
        m.run(5);
        Check.due("RUN alone", m.register(0, 6, 0), 8);
        Check.due("perms of PCC", m.register(0, 16, 3), Asm.RUN);
    }

    private static void faultChangesNothing() {
        Code code = new Code().put(Asm.addi(4, 0, -1), Asm.storeWord(3, 4, 0),
            Asm.storeCap(3, 3, 16), Asm.storeWord(3, 4, 1), 0);
        SweptGrants m = Image.alone(code);
        m.run(5);
        Check.due("fault", m.thread(0, 4), ALIGN);
        Check.due("word", m.memory(globals(m), 4), 0xFFFFFFFFL);
        Check.due("next word", m.memory(globals(m) + 4, 4), 0);
        Check.due("tag", m.tag(globals(m) / 16 + 1), 1);
        Check.due("time", m.count(0), 4);
    }
}
