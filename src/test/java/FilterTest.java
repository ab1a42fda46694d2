/**
 * Promises 5 and 10, the FILTER: a capability's tag goes if its base lies in a REVOKED granule, by
 * the byte, wherever the capability is kept.
 */
public final class FilterTest {
    private static final int OBJECT = 32;

    public static void main(String[] args) {
        firstByte();
        lastByte();
        withoutPlaces();
        nextByte();
        endOfMemory();
        behindMemory();
        sealed();
        entries();
        notTagged();
        Check.end();
    }

    /**
     * Three objects are made, the middle one comes to c4, the words make c4 less, and it is kept in
     * c8 and c9, which a call keeps in a frame, and in the globals; then the middle one is freed, and all is swept.
     */
    private static SweptGrants machine(int... words) {
        Code code = new Code().put(Asm.addi(10, 0, 16)).go(0).number(10, OBJECT).go(0)
            .put(Asm.copy(4, 10), Asm.storeCap(3, 4, 48)).put(Asm.addi(10, 0, 16)).go(0)
            .put(Asm.loadCap(4, 3, 48)).put(words).put(Asm.copy(8, 4), Asm.copy(9, 4),
            Asm.storeCap(3, 4, 0), Asm.loadCap(10, 3, 48)).go(9)
            .put(Asm.jal(0, 0));
        Image image = new Image();
        image.part(4).services().grant(Image.EXPORT, 1, 0).export(0, 1).code(code);
        Code callee = new Code().go(1).go(6).number(10, 200).go(3).put(Asm.addi(1, 0, 0), 0);
        image.part(0).services().export(0, 1).code(callee);
        return image.thread(0, 0, 0, 4, 2).boot(2);
    }

    /** Behind the call the object is freed; some steps later the sweep has ended. */
    private static void stays(String name, SweptGrants m, boolean tagged, boolean due) {
        int steps = 0;
        while (m.thread(0, 1) == 0 && steps < 100) {
            m.run(1);
            steps++;
        }
        int globals = m.compartment(0, 2) / 16;
        Check.due(name + ": called", m.thread(0, 1), 1);
        Check.due(name + ": tag before", m.tag(globals), tagged ? 1 : 0);
        m.run(3);
        Check.due(name + ": freed", m.heap(3) > 0, true);
        Check.due(name + ": tag in memory till it is swept", m.tag(globals), tagged ? 1 : 0);
        m.run(100);
        Check.due(name + ": swept", m.heap(5), 1);
        Check.due(name + ": in memory", m.tag(globals), due ? 1 : 0);
        m.run(120);
        Check.due(name + ": back", m.thread(0, 1), 0);
        Check.due(name + ": in a frame", m.register(0, 8, 5), due ? 1 : 0);
        Check.due(name + ": in a frame", m.register(0, 9, 5), due ? 1 : 0);
    }

    private static void firstByte() {
        stays("all of it", machine(), true, false);
        stays("its first byte", machine(Asm.narrow(4, 4, 1)), true, false);
    }

    private static void lastByte() {
        stays("its last byte", machine(Asm.move(4, 4, OBJECT - 1), Asm.narrow(4, 4, 1)), true, false);
    }

    /** Bounds that hold nothing have a base all the same. */
    private static void withoutPlaces() {
        stays("nothing of it", machine(Asm.narrow(4, 4, 0)), true, false);
        stays("nothing at its last byte", machine(Asm.move(4, 4, OBJECT - 1), Asm.narrow(4, 4, 0)),
            true, false);
    }

    /** The base is the next object's first byte, which is not REVOKED. */
    private static void nextByte() {
        stays("nothing at its top", machine(Asm.move(4, 4, OBJECT), Asm.narrow(4, 4, 0)), true, true);
    }

    /** The last object's top is M, where no granule is. */
    private static void endOfMemory() {
        for (int way = 0; way <= 1; way++) {
            SweptGrants m = lastObject(way);
            m.run(40);
            Check.due("freed", m.heap(3), 2048 - m.heap(0));
            Check.due("last granule", m.tag(127), 2);
            Check.due("base", m.register(0, 8, 1), 2048 - way);
            Check.due("a base from M on", m.register(0, 8, 5), 1 - way);
            m.run(60);
            Check.due("swept", m.heap(5), 1);
            Check.due("a base from M on, in memory", m.tag(m.compartment(0, 2) / 16), 1 - way);
            Check.due("a base from M on, in a register", m.register(0, 8, 5), 1 - way);
        }
    }

    /** All of the heap is one object; c8 is nothing at M less that way. */
    private static SweptGrants lastObject(int way) {
        int heap = ofHeap(16, way).heap(4);
        return ofHeap(heap, way);
    }

    private static SweptGrants ofHeap(int bytes, int way) {
        Code code = new Code().number(10, bytes).go(0).number(6, bytes - way)
            .put(Asm.derive(0, 4, 10, 6), Asm.narrow(4, 4, 0), Asm.copy(8, 4), Asm.storeCap(3, 4, 0))
            .go(1).put(Asm.jal(0, 0));
        return Image.served(code);
    }

    private static void behindMemory() {
        Image image = new Image();
        image.part(4).services().grant(Image.DEVICE, 1, 0).export(0, 1).code(new Code().take(8, 9)
            .put(Asm.storeCap(3, 8, 0), Asm.addi(10, 0, 16)).go(0).go(1).go(6).put(Asm.jal(0, 0)));
        SweptGrants m = image.thread(0, 0, 0, 1, 0).boot(1);
        m.run(60);
        Check.due("freed and swept", m.heap(5), 1);
        Check.due("the device's base", m.register(0, 8, 1), 0x10000000L);
        Check.due("the device in c8", m.register(0, 8, 5), 1);
        Check.due("the device in memory", m.tag(m.compartment(0, 2) / 16), 1);
    }

    /** Sealed ones have a base like all others. */
    private static void sealed() {
        Image image = new Image();
        image.part(1).services().grant(Image.SEAL, 0, 1).export(0, 1).code(new Code()
            .put(Asm.addi(10, 0, 16)).go(0).take(6, 9).put(Asm.derive(4, 8, 10, 6),
            Asm.storeCap(3, 8, 0)).go(1).put(Asm.loadCap(12, 3, 0)).put(Asm.jal(0, 0)));
        SweptGrants m = image.thread(0, 0, 0, 1, 0).boot(1);
        m.run(12);
        Check.due("type", m.register(0, 8, 4), 8);
        Check.due("sealed, in c8", m.register(0, 8, 5), 0);
        Check.due("sealed, in memory till it is swept", m.tag(m.compartment(0, 2) / 16), 1);
        Check.due("sealed, loaded", m.register(0, 12, 5), 0);
        Check.due("its type", m.register(0, 12, 4), 8);
    }

    /** What does not come from the heap is never touched. */
    private static void entries() {
        SweptGrants m = Image.served(new Code().put(Asm.auipc(6, 0), Asm.inspect(11, 8, 6),
            Asm.copy(9, 1), Asm.addi(10, 0, 16)).go(0).go(1).go(6).put(Asm.jal(0, 0)));
        m.run(80);
        Check.due("swept", m.heap(5), 1);
        Check.due("an ENTRY", m.register(0, 8, 5), 1);
        Check.due("a RETURN", m.register(0, 9, 5), 1);
        Check.due("the stack", m.register(0, 2, 5), 1);
        Check.due("the globals", m.register(0, 3, 5), 1);
        Check.due("PCC", m.register(0, 16, 5), 1);
        for (int k = 0; k < 9; k++) {
            Check.due("import " + k, m.tag(m.compartment(0, 1) / 16 + k), 1);
        }
    }

    private static void notTagged() {
        stays("one without tag", machine(Asm.inspect(9, 4, 4)), false, false);
    }
}
