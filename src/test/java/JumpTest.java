/** Promise 5, instruction 67 with what is plain or an ENTRY, and its faults. */
public final class JumpTest {
    public static void main(String[] args) {
        plain();
        entries();
        links();
        faults();
        Check.end();
    }

    private static void plain() {
        for (int offset : new int[] {-2048, -4, 0, 1, 8, 2047}) {
            SweptGrants m = Image.alone(new Code().put(Asm.auipc(4, 0), Asm.jalr(7, 4, offset)));
            m.run(2);
            Check.due("cursor " + offset, m.register(0, 16, 0), offset & 0xFFFFFFFFL);
            Check.due("type", m.register(0, 16, 4), 0);
            Check.due("link", m.register(0, 7, 0), 8);
            Check.due("done", m.thread(0, 5), 2);
        }
        SweptGrants m = Image.alone(new Code().put(Asm.auipc(4, 0), Asm.jalr(4, 4, 12), 0,
            Asm.addi(6, 0, 1)));
        m.run(3);
        Check.due("a counts as it was", m.register(0, 6, 0), 1);
        Check.due("d is a", m.register(0, 4, 0), 8);
    }

    /** c4 is an entry of that type to word 4. */
    private static SweptGrants entered(int type, int interrupts) {
        Image image = new Image();
        image.part(0).export(0, interrupts).code(new Code().put(Asm.auipc(4, 0), Asm.move(4, 4, 16),
            Asm.inspect(9 + type, 4, 4), Asm.jalr(7, 4, 0), Asm.inspect(7, 8, 0), Asm.jal(0, 0)));
        SweptGrants m = image.thread(0, 0, 0, 1, 0).boot(1);
        m.run(4);
        return m;
    }

    private static void entries() {
        int[][] cases = {{1, 3, 1}, {1, 2, 0}, {2, 3, 0}, {2, 2, 0}, {3, 3, 1}, {3, 2, 1}};
        for (int[] one : cases) {
            SweptGrants m = entered(one[0], one[1]);
            String name = "entry " + one[0] + " from " + one[1];
            Check.due(name + ": cursor", m.register(0, 16, 0), 16);
            Check.due(name + ": type", m.register(0, 16, 4), 0);
            Check.due(name + ": interrupts", m.thread(0, 3), one[2]);
            Check.due(name + ": link", m.register(0, 7, 4), one[1]);
            Check.due(name + ": link's cursor", m.register(0, 7, 0), 16);
            m.run(1);
            Check.due(name + ": told", m.register(0, 8, 0), one[2]);
        }
    }

    /** Interrupts go off by an entry, and on again by the link. */
    private static void links() {
        Code code = new Code().put(Asm.auipc(4, 0), Asm.move(4, 4, 24), Asm.inspect(11, 4, 4),
            Asm.jalr(7, 4, 0), Asm.addi(6, 0, 9), Asm.jal(0, 0), Asm.jalr(0, 7, 0));
        SweptGrants m = Image.alone(code);
        m.run(4);
        Check.due("off", m.thread(0, 3), 0);
        m.run(1);
        Check.due("on", m.thread(0, 3), 1);
        Check.due("cursor", m.register(0, 16, 0), 16);
        m.run(1);
        Check.due("behind", m.register(0, 6, 0), 9);
    }

    private static void fails(String name, int fault, Code code) {
        SweptGrants m = Image.alone(code, Image.EXPORT, 0, 0, Image.SERVICE, 7, 0, Image.SEAL, 0, 4);
        m.run(code.here() - 1);
        Check.due(name + ": none before", m.thread(0, 4), 0);
        m.run(1);
        Check.due(name, m.thread(0, 4), fault);
    }

    private static void faults() {
        fails("null", 1, new Code().put(Asm.jalr(7, 4, 0)));
        fails("number", 1, new Code().put(Asm.addi(4, 0, 8), Asm.jalr(7, 4, 0)));
        fails("without tag", 1, new Code().put(Asm.auipc(4, 0), Asm.inspect(9, 4, 4),
            Asm.jalr(7, 4, 0)));
        fails("without RUN", 3, new Code().put(Asm.jalr(7, 3, 0)));
        fails("without RUN by 4", 3, new Code().put(Asm.jalr(7, 3, 4)));
        for (int type = 1; type <= 3; type++) {
            fails("entry by 4", 2, new Code().put(Asm.auipc(4, 0), Asm.inspect(9 + type, 4, 4),
                Asm.jalr(7, 4, 4)));
        }
        fails("return by 4", 2, new Code().put(Asm.jalr(7, 1, 4)));
        fails("return by -1", 2, new Code().put(Asm.jalr(7, 1, -1)));
        fails("export by 4", 2, new Code().take(4, 0).put(Asm.jalr(7, 4, 4)));
        fails("service by 4", 2, new Code().take(4, 1).put(Asm.jalr(7, 4, 4)));
        fails("sealed", 2, new Code().take(4, 2).put(Asm.auipc(6, 0), Asm.derive(4, 6, 6, 4),
            Asm.jalr(7, 6, 0)));
        fails("export without tag", 1, new Code().take(4, 0).put(Asm.move(4, 4, 1),
            Asm.jalr(7, 4, 0)));
        fails("service without tag", 1, new Code().take(4, 1).put(Asm.move(4, 4, 0),
            Asm.jalr(7, 4, 0)));
    }
}
