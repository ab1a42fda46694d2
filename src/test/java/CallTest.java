/** Promise 5: how a thread begins, CALL, RETURN and FAULTS between compartments. */
public final class CallTest {
    private static final int RETURN = 5;

    public static void main(String[] args) {
        begin();
        call();
        back();
        stackIsErased();
        stackFaults();
        stackOfCallee();
        noStackLeft();
        framesFull();
        framesByNumber();
        interruptsOfExports();
        faultInCallee();
        faultWithoutFrame();
        linkBeforeCall();
        returnIsNoSecret();
        callInsideItself();
        thereAndBack();
        allFramesBack();
        Check.end();
    }

    private static void is(String name, SweptGrants m, int k, long... due) {
        for (int what = 0; what < due.length; what++) {
            Check.due(name + ": c" + k + " " + what, m.register(0, k, what), due[what]);
        }
    }

    private static void isNull(String name, SweptGrants m, int... registers) {
        for (int k : registers) {
            is(name, m, k, 0, 0, 0, 0, 0, 0);
        }
    }

    /** Compartment 0 imports export 0 of compartment 1 as import 0; stack of four, two frames. */
    private static SweptGrants two(Code caller, Code callee, int frames) {
        Image image = new Image();
        image.part(2).export(0, 1).grant(Image.EXPORT, 1, 0).grant(Image.EXPORT, 1, 1).code(caller);
        image.part(3).export(0, 1).export(1, 1).grant(Image.EXPORT, 1, 0)
            .grant(Image.SERVICE, 0, 0).grant(Image.SERVICE, 1, 0).grant(Image.EXPORT, 0, 0)
            .code(callee);
        return image.thread(0, 0, 0, 4, frames).boot(2);
    }

    private static void begin() {
        Image image = new Image();
        image.part(1).export(0, 1);
        image.part(2).export(0, 1).export(3, 2).export(2, 3).code(new Code().put(0, 0, 0, 0, 0));
        SweptGrants m = image.thread(1, 1, 2, 3, 4).thread(1, 2, 0, 1, 0).thread(0, 0, 0, 2, 0).boot(1);
        int code = m.compartment(1, 0);
        int globals = m.compartment(1, 2);
        int stack = m.compartment(1, 3);
        is("PCC", m, 16, code + 12, code, globals, Asm.CODE, 0, 1);
        is("return", m, 1, 0, 0, 0, 0, RETURN, 1);
        is("stack", m, 2, stack + 48, stack, stack + 48, Asm.STACK, 0, 1);
        is("globals", m, 3, globals, globals, globals + 32, Asm.DATA, 0, 1);
        isNull("others", m, 0, 4, 5, 6, 7, 8, 9, 10, 11, 12, 13, 14, 15);
        Check.due("off", m.thread(0, 3), 0);
        Check.due("on by 3", m.thread(1, 3), 1);
        Check.due("on by 1", m.thread(2, 3), 1);
        Check.due("entry of 1", m.register(1, 16, 0), code + 8);
        Check.due("stack of 1", m.register(1, 2, 1), stack + 48);
        Check.due("stack of 2", m.register(2, 2, 2), stack + 96);
        Check.due("heap", m.heap(0), stack + 96);
    }

    /** Registers 4 .. 15 are their numbers when it calls. */
    private static Code caller() {
        Code code = new Code().put(Asm.move(2, 2, -16));
        for (int k = 6; k < 16; k++) {
            code.put(Asm.addi(k, 0, k));
        }
        return code.go(0).put(Asm.addi(0, 0, 0));
    }

    private static SweptGrants called(Code callee) {
        SweptGrants m = two(caller(), callee, 2);
        m.run(14);
        return m;
    }

    private static void call() {
        SweptGrants m = called(new Code().put(Asm.jal(0, 0), 0));
        int code = m.compartment(1, 0);
        int globals = m.compartment(1, 2);
        int stack = m.thread(0, 7);
        Check.due("compartment", m.thread(0, 1), 1);
        Check.due("frames", m.thread(0, 2), 1);
        Check.due("calls", m.count(3), 1);
        Check.due("done", m.thread(0, 5), 14);
        is("PCC", m, 16, code, code, globals, Asm.CODE, 0, 1);
        is("return", m, 1, 0, 0, 0, 0, RETURN, 1);
        is("stack", m, 2, stack + 48, stack, stack + 48, Asm.STACK, 0, 1);
        is("globals", m, 3, globals, globals, globals + 48, Asm.DATA, 0, 1);
        isNull("others", m, 0, 4, 5, 6, 7, 8, 9);
        for (int k = 10; k < 16; k++) {
            is("argument", m, k, k, 0, 0, 0, 0, 0);
        }
    }

    private static void back() {
        Code callee = new Code().put(Asm.addi(8, 0, 99), Asm.addi(9, 0, 98), Asm.addi(10, 0, 97),
            Asm.addi(6, 0, 96), Asm.addi(15, 0, 95)).back();
        SweptGrants m = called(callee);
        m.run(6);
        int stack = m.thread(0, 7);
        int globals = m.compartment(0, 2);
        Check.due("compartment", m.thread(0, 1), 0);
        Check.due("frames", m.thread(0, 2), 0);
        Check.due("done", m.thread(0, 5), 20);
        is("PCC", m, 16, 14 * 4, 0, globals, Asm.CODE, 0, 1);
        is("stack", m, 2, stack + 48, stack, stack + 64, Asm.STACK, 0, 1);
        is("globals", m, 3, globals, globals, globals + 32, Asm.DATA, 0, 1);
        is("kept", m, 8, 8, 0, 0, 0, 0, 0);
        is("kept", m, 9, 9, 0, 0, 0, 0, 0);
        is("answer", m, 10, 97, 0, 0, 0, 0, 0);
        is("answer", m, 11, 11, 0, 0, 0, 0, 0);
        isNull("others", m, 0, 1, 4, 5, 6, 7, 12, 13, 14, 15);
    }

    private static void stackIsErased() {
        Code caller = new Code().put(Asm.addi(6, 0, -1), Asm.storeWord(2, 6, -4),
            Asm.storeWord(2, 6, -60), Asm.storeCap(2, 2, -48), Asm.storeCap(2, 3, -32),
            Asm.move(2, 2, -32)).go(0).put(Asm.jal(0, 0));
        Code callee = new Code().put(Asm.addi(6, 0, -1), Asm.storeWord(2, 6, -4),
            Asm.storeCap(2, 3, -32)).back();
        SweptGrants m = two(caller, callee, 1);
        int stack = m.thread(0, 7);
        m.run(8);
        Check.due("tag before", m.tag(stack / 16 + 1), 1);
        Check.due("word before", m.memory(stack + 4, 4), 0xFFFFFFFFL);
        m.run(1);
        Check.due("tag below", m.tag(stack / 16 + 1), 0);
        Check.due("word below", m.memory(stack + 4, 4), 0);
        Check.due("word of the capability", m.memory(stack + 16, 4), 0);
        Check.due("tag from the cursor on", m.tag(stack / 16 + 2), 1);
        Check.due("word above", m.memory(stack + 60, 4), 0xFFFFFFFFL);
        m.run(3);
        Check.due("callee's word", m.memory(stack + 28, 4), 0xFFFFFFFFL);
        Check.due("callee's tag", m.tag(stack / 16), 1);
        m.run(1);
        Check.due("back", m.thread(0, 1), 0);
        Check.due("word behind return", m.memory(stack + 28, 4), 0);
        Check.due("tag behind return", m.tag(stack / 16), 0);
        Check.due("bytes behind return", m.memory(stack + 4, 4), 0);
        Check.due("tag above stays", m.tag(stack / 16 + 2), 1);
        Check.due("word above stays", m.memory(stack + 60, 4), 0xFFFFFFFFL);
    }

    private static void stack(String name, int fault, int... words) {
        Code caller = new Code().put(words).go(0).put(0);
        SweptGrants m = two(caller, new Code().put(Asm.jal(0, 0), 0), 1);
        m.run(words.length + 3);
        Check.due(name, m.thread(0, 4), fault);
        Check.due(name + ": frames", m.thread(0, 2), fault == 0 ? 1 : 0);
        Check.due(name + ": calls", m.count(3), fault == 0 ? 1 : 0);
    }

    private static void stackFaults() {
        stack("whole", 0);
        stack("nothing left", 0, Asm.move(2, 2, -64));
        stack("below", 7, Asm.move(2, 2, -80));
        stack("above", 7, Asm.move(2, 2, 16));
        stack("by 8", 7, Asm.move(2, 2, -8));
        stack("by 1", 7, Asm.move(2, 2, -1));
        stack("no tag", 7, Asm.inspect(9, 2, 2));
        stack("null", 7, Asm.addi(2, 0, 0));
        stack("globals", 7, Asm.copy(2, 3));
        stack("sealed", 7, Asm.copy(2, 1));
        stack("no WRITE", 7, Asm.addi(6, 0, 0x9D), Asm.derive(3, 2, 2, 6));
        stack("WRITE alone", 0, Asm.addi(6, 0, 2), Asm.derive(3, 2, 2, 6));
        stack("other base", 7, Asm.move(2, 2, -48), Asm.narrow(2, 2, 48));
        stack("other top", 7, Asm.move(2, 2, -64), Asm.narrow(2, 2, 48));
        stack("same bounds", 0, Asm.move(2, 2, -64), Asm.narrow(2, 2, 64));
    }

    /** What was given goes down by the calls, and comes again by the returns. */
    private static void stackOfCallee() {
        Code caller = new Code().put(Asm.addi(6, 0, 2), Asm.derive(3, 2, 2, 6), Asm.move(2, 2, -16))
            .go(0).go(0).put(Asm.jal(0, 0));
        Code callee = new Code().put(Asm.jal(0, 8), Asm.jal(0, 0), Asm.copy(9, 2)).put(Asm.copy(8, 1))
            .put(Asm.move(2, 2, -16)).take(5, 3).put(Asm.jalr(1, 5, 0), Asm.jalr(0, 8, 0));
        SweptGrants m = two(caller, callee, 1);
        m.run(6);
        int stack = m.thread(0, 7);
        is("full perms for the callee", m, 2, stack + 48, stack, stack + 48, Asm.STACK, 0, 1);
        m.run(7);
        is("no frame left", m, 11, 8, 0, 0, 0, 0, 0);
        Check.due("frames", m.thread(0, 2), 1);
        m.run(1);
        Check.due("back", m.thread(0, 1), 0);
        is("as it was", m, 2, stack + 48, stack, stack + 64, 2, 0, 1);
        m.run(3);
        Check.due("the next call", m.thread(0, 4), 0);
        Check.due("frames", m.thread(0, 2), 1);
        Code old = new Code().put(Asm.storeCap(2, 2, -16), Asm.move(4, 2, -16), Asm.copy(10, 2))
            .put(Asm.move(2, 2, -32)).go(0);
        Code bad = new Code().put(Asm.move(2, 10, -32)).go(0).put(0);
        m = two(old, bad, 4);
        m.run(7);
        Check.due("called", m.thread(0, 1), 1);
        m.run(4);
        Check.due("top is not what was given", m.thread(0, 4), 7);
        Check.due("back by the fault", m.thread(0, 1), 0);
    }

    /** The cursor is the stack's base: the callee's stack has no places, but it can call. */
    private static void noStackLeft() {
        Code caller = new Code().put(Asm.addi(6, 0, 7), Asm.storeWord(2, 6, -4), Asm.move(2, 2, -64))
            .go(0).put(Asm.jal(0, 0));
        Code callee = new Code().go(0).put(Asm.storeWord(2, 0, 0));
        SweptGrants m = two(caller, callee, 2);
        int stack = m.thread(0, 7);
        m.run(6);
        is("no places", m, 2, stack, stack, stack, Asm.STACK, 0, 1);
        Check.due("from the cursor on all stays", m.memory(stack + 60, 4), 7);
        m.run(3);
        Check.due("calls", m.count(3), 2);
        is("no places again", m, 2, stack, stack, stack, Asm.STACK, 0, 1);
        m.run(3);
        is("no frame is left", m, 11, 8, 0, 0, 0, 0, 0);
        m.run(1);
        Check.due("beyond its stack", m.thread(0, 4), 4);
        Check.due("frames", m.thread(0, 2), 1);
        m.run(1);
        Check.due("beyond its stack", m.thread(0, 4), 4);
        Check.due("back", m.thread(0, 1), 0);
        is("as it was", m, 2, stack, stack, stack + 64, Asm.STACK, 0, 1);
        Check.due("above the cursor all stays", m.memory(stack + 60, 4), 7);
    }

    private static void framesFull() {
        Code caller = caller();
        SweptGrants m = two(caller, new Code().put(0, 0), 0);
        m.run(14);
        is("c10", m, 10, 0xFFFFFFFFL, 0, 0, 0, 0, 0);
        is("c11", m, 11, 8, 0, 0, 0, 0, 0);
        for (int k : new int[] {6, 7, 8, 9, 12, 13, 14, 15}) {
            is("stays", m, k, k, 0, 0, 0, 0, 0);
        }
        is("link", m, 1, 14 * 4, 0, m.compartment(0, 2), Asm.CODE, 3, 1);
        Check.due("type of c5", m.register(0, 5, 4), 4);
        Check.due("cursor", m.register(0, 16, 0), 14 * 4);
        Check.due("calls", m.count(3), 0);
        Check.due("faults", m.count(2), 0);
        Check.due("latest fault", m.thread(0, 4), 0);
        Check.due("done", m.thread(0, 5), 14);
        Check.due("compartment", m.thread(0, 1), 0);
        SweptGrants bad = two(new Code().put(Asm.addi(2, 0, 0)).go(0), new Code().put(0, 0), 0);
        bad.run(4);
        Check.due("a bad stack goes before", bad.thread(0, 4), 7);
    }

    /** Compartment 1 calls itself as often as there are frames. */
    private static void framesByNumber() {
        for (int frames : new int[] {1, 2, 7, 16}) {
            Code callee = new Code().go(0).put(Asm.jal(0, 0));
            SweptGrants m = two(new Code().go(0).put(Asm.jal(0, 0)), callee, frames);
            m.run(3 * (frames + 1));
            Check.due("frames", m.thread(0, 2), frames);
            Check.due("calls", m.count(3), frames);
            is("c11", m, 11, 8);
            Check.due("compartment", m.thread(0, 1), 1);
        }
    }

    private static void interruptsOfExports() {
        int[][] cases = {{1, 1, 1}, {1, 2, 0}, {1, 3, 1}, {2, 1, 0}, {2, 2, 0}, {2, 3, 1}};
        for (int[] one : cases) {
            Image image = new Image();
            image.part(0).export(0, one[0]).grant(Image.EXPORT, 1, 0).code(new Code().go(0)
                .put(Asm.jal(0, 0)));
            image.part(0).export(0, one[1]).code(new Code().back());
            SweptGrants m = image.thread(0, 0, 0, 1, 1).boot(1);
            m.run(3);
            Check.due("called " + one[1] + " from " + one[0], m.thread(0, 3), one[2]);
            m.run(1);
            Check.due("back", m.thread(0, 3), one[0] == 1 ? 1 : 0);
            Check.due("compartment", m.thread(0, 1), 0);
        }
    }

    private static void faultInCallee() {
        Code callee = new Code().put(Asm.addi(6, 0, -1), Asm.storeWord(2, 6, -4),
            Asm.loadWord(10, 3, 2));
        SweptGrants m = called(callee);
        int stack = m.thread(0, 7);
        m.run(2);
        Check.due("callee's word", m.memory(stack + 44, 4), 0xFFFFFFFFL);
        m.run(1);
        Check.due("compartment", m.thread(0, 1), 0);
        Check.due("frames", m.thread(0, 2), 0);
        Check.due("latest fault", m.thread(0, 4), 5);
        Check.due("faults", m.count(2), 1);
        Check.due("done", m.thread(0, 5), 16);
        Check.due("state", m.thread(0, 0), 0);
        is("c10", m, 10, 0xFFFFFFFFL, 0, 0, 0, 0, 0);
        is("c11", m, 11, 5, 0, 0, 0, 0, 0);
        is("c8", m, 8, 8, 0, 0, 0, 0, 0);
        is("c9", m, 9, 9, 0, 0, 0, 0, 0);
        is("stack", m, 2, stack + 48, stack, stack + 64, Asm.STACK, 0, 1);
        isNull("others", m, 0, 1, 4, 5, 6, 7, 12, 13, 14, 15);
        Check.due("stack is erased", m.memory(stack + 44, 4), 0);
        Check.due("cursor", m.register(0, 16, 0), 14 * 4);
    }

    private static void faultWithoutFrame() {
        SweptGrants m = Image.alone(new Code().put(Asm.addi(10, 0, 5), 0));
        m.run(1);
        Check.due("run", m.run(9), 1);
        Check.due("state", m.thread(0, 0), 3);
        Check.due("latest fault", m.thread(0, 4), 6);
        for (int k = 0; k <= 16; k++) {
            isNull("ended", m, k);
        }
        Check.due("current till the next step", m.count(1), 0);
        m = Image.alone(new Code().put(Asm.addi(10, 0, 5)).back());
        Check.due("run", m.run(9), 2);
        Check.due("state", m.thread(0, 0), 3);
        Check.due("latest fault", m.thread(0, 4), 0);
        Check.due("done", m.thread(0, 5), 2);
        for (int k = 0; k <= 16; k++) {
            isNull("ended", m, k);
        }
    }

    /** LINK comes to d ahead of the call, so that an argument's register can bring it. */
    private static void linkBeforeCall() {
        SweptGrants m = two(new Code().take(5, 0).put(Asm.jalr(12, 5, 0)),
            new Code().put(Asm.jal(0, 0), 0), 1);
        m.run(3);
        is("link as an argument", m, 12, 12, 0, m.compartment(0, 2), Asm.CODE, 3, 1);
        m = two(new Code().take(5, 0).put(Asm.jalr(8, 5, 0), 0), new Code().back().put(0), 1);
        m.run(4);
        is("link as kept", m, 8, 12, 0, m.compartment(0, 2), Asm.CODE, 3, 1);
        m = two(new Code().take(5, 0).put(Asm.jalr(5, 5, 0), 0), new Code().put(Asm.jal(0, 0), 0), 1);
        m.run(3);
        Check.due("a counts as it was", m.thread(0, 1), 1);
        m = two(new Code().take(5, 0).put(Asm.jalr(2, 5, 0), 0), new Code().put(Asm.jal(0, 0), 0), 1);
        m.run(3);
        Check.due("link is no stack", m.thread(0, 4), 7);
    }

    /** A RETURN can be kept by a callee, but it goes back to the last frame alone. */
    private static void returnIsNoSecret() {
        Code caller = new Code().put(Asm.copy(10, 1)).go(0).put(Asm.addi(6, 0, 3)).back();
        SweptGrants m = two(caller, new Code().put(Asm.jalr(0, 10, 0), 0), 1);
        m.run(5);
        Check.due("back", m.thread(0, 1), 0);
        Check.due("state", m.thread(0, 0), 0);
        is("c10", m, 10, 0, 0, 0, 0, RETURN, 1);
        m.run(2);
        Check.due("c1 is NULL", m.thread(0, 4), 1);
        Check.due("state", m.thread(0, 0), 3);
    }

    private static void callInsideItself() {
        Image image = new Image();
        image.part(1).export(0, 1).export(4, 2).grant(Image.EXPORT, 0, 1)
            .code(new Code().go(0).put(Asm.jal(0, 0), Asm.addi(10, 10, 1)).back());
        SweptGrants m = image.thread(0, 0, 0, 1, 1).boot(1);
        m.run(3);
        Check.due("cursor", m.register(0, 16, 0), 16);
        Check.due("compartment", m.thread(0, 1), 0);
        Check.due("frames", m.thread(0, 2), 1);
        Check.due("interrupts", m.thread(0, 3), 0);
        m.run(2);
        Check.due("back", m.register(0, 16, 0), 12);
        is("answer", m, 10, 1);
    }

    /** Compartment 0 calls 1, that calls 2: each return goes to the one that called. */
    private static void thereAndBack() {
        Image image = new Image();
        image.part(0).export(0, 1).grant(Image.EXPORT, 1, 0).code(new Code().go(0).put(Asm.jal(0, 0)));
        image.part(0).export(0, 2).grant(Image.EXPORT, 2, 0).code(new Code().put(Asm.copy(8, 1)).go(0)
            .put(Asm.jalr(0, 8, 0)));
        image.part(0).export(0, 3).code(new Code().back());
        SweptGrants m = image.thread(0, 0, 0, 1, 2).boot(1);
        int[] steps = {3, 4, 1, 1};
        int[] compartments = {1, 2, 1, 0};
        int[] frames = {1, 2, 1, 0};
        int[] interrupts = {0, 1, 0, 1};
        for (int i = 0; i < steps.length; i++) {
            m.run(steps[i]);
            Check.due("compartment", m.thread(0, 1), compartments[i]);
            Check.due("frames", m.thread(0, 2), frames[i]);
            Check.due("interrupts", m.thread(0, 3), interrupts[i]);
            Check.due("base of PCC", m.register(0, 16, 1), m.compartment(compartments[i], 0));
        }
        Check.due("cursor", m.register(0, 16, 0), 12);
    }

    /** Sixteen frames, each with its number in c9, all given back by faults. */
    private static void allFramesBack() {
        Image image = new Image();
        image.part(0).export(0, 1).grant(Image.EXPORT, 0, 0).code(new Code()
            .put(Asm.addi(9, 10, 1), Asm.copy(10, 9)).go(0).put(0));
        SweptGrants m = image.thread(0, 0, 0, 1, 16).boot(1);
        m.run(5 * 17);
        Check.due("frames", m.thread(0, 2), 16);
        Check.due("calls", m.count(3), 16);
        is("c9", m, 9, 17);
        for (int left = 15; left >= 0; left--) {
            m.run(1);
            Check.due("frames", m.thread(0, 2), left);
            is("c9", m, 9, left + 1);
            is("c11", m, 11, 6);
        }
        m.run(1);
        Check.due("ended", m.thread(0, 0), 3);
        Check.due("faults", m.count(2), 17);
    }
}
