/** Promises 5 and 14: who runs, by priority, time and interrupts. */
public final class SchedulerTest {
    public static void main(String[] args) {
        atFirst();
        byPriority();
        fiftySteps();
        threeInTurn();
        interruptsOff();
        wakesAboveTheCurrent();
        sleepersAboveOff();
        offButYields();
        offButSleeps();
        onAgain();
        sliceBeginsAnew();
        yielding();
        yieldAlone();
        longestAgo();
        longerThanFifty();
        ended();
        lastStep();
        noneReady();
        sleepOfOneStep();
        Check.end();
    }

    /** Export 0 counts in c6 for ever, export 1 the same without interrupts, export 2 ends at once. */
    private static Image counting() {
        Image image = new Image();
        image.part(0).export(0, 1).export(0, 2).export(2, 1)
            .code(new Code().put(Asm.addi(6, 6, 1), Asm.jal(0, -4)).back());
        return image;
    }

    private static void dones(String name, SweptGrants m, int... due) {
        for (int t = 0; t < due.length; t++) {
            Check.due(name + ": thread " + t, m.thread(t, 5), due[t]);
        }
    }

    private static void atFirst() {
        SweptGrants m = counting().thread(0, 0, 3, 1, 0).boot(1);
        Check.due("none at first", m.count(1), -1);
        Check.due("times", m.count(5), 0);
        m.run(1);
        Check.due("current", m.count(1), 0);
        Check.due("times", m.count(5), 1);
        m.run(300);
        Check.due("alone it stays", m.count(5), 1);
        dones("alone", m, 301);
    }

    private static void byPriority() {
        SweptGrants m = counting().thread(0, 0, 2, 1, 0).thread(0, 0, 7, 1, 0).thread(0, 0, 0, 1, 0)
            .boot(1);
        m.run(200);
        Check.due("current", m.count(1), 1);
        dones("greatest", m, 0, 200, 0);
        m = counting().thread(0, 0, 2, 1, 0).thread(0, 2, 7, 1, 0).thread(0, 0, 3, 1, 0).boot(1);
        m.run(1);
        Check.due("ended, current till the next step", m.count(1), 1);
        m.run(1);
        Check.due("the next", m.count(1), 2);
        m = counting().thread(0, 0, 2, 1, 0).thread(0, 0, 2, 1, 0).boot(1);
        m.run(1);
        Check.due("the least number", m.count(1), 0);
    }

    private static void fiftySteps() {
        SweptGrants m = counting().thread(0, 0, 2, 1, 0).thread(0, 0, 2, 1, 0).thread(0, 0, 1, 1, 0)
            .boot(1);
        m.run(50);
        dones("fifty", m, 50, 0, 0);
        m.run(1);
        dones("then the other", m, 50, 1, 0);
        Check.due("times", m.count(5), 2);
        m.run(49);
        dones("fifty", m, 50, 50, 0);
        m.run(1);
        dones("then the first", m, 51, 50, 0);
        m.run(399);
        dones("by turns", m, 250, 250, 0);
        Check.due("times", m.count(5), 10);
    }

    private static void threeInTurn() {
        SweptGrants m = counting().thread(0, 0, 2, 1, 0).thread(0, 0, 2, 1, 0).thread(0, 0, 2, 1, 0)
            .boot(1);
        int[] due = {0, 1, 2, 0, 1, 2, 0};
        for (int t : due) {
            m.run(25);
            Check.due("turn", m.count(1), t);
            m.run(25);
            Check.due("turn", m.count(1), t);
        }
    }

    private static void interruptsOff() {
        SweptGrants m = counting().thread(0, 1, 2, 1, 0).thread(0, 0, 2, 1, 0).boot(1);
        m.run(500);
        dones("it stays", m, 500, 0);
        m = counting().thread(0, 0, 2, 1, 0).thread(0, 1, 2, 1, 0).boot(1);
        m.run(500);
        dones("the other stays", m, 50, 450);
    }

    /** Thread 0 of priority 5 sleeps for ten steps; what runs then may have interrupts off. */
    private static Image sleeper(int export) {
        Image image = new Image();
        Code code = new Code().number(10, 10).go(0).put(Asm.addi(6, 6, 1), Asm.jal(0, -4));
        int entry = code.here();
        code.put(Asm.addi(6, 6, 1), Asm.jal(0, -4));
        image.part(0).export(0, 1).export(entry, 1).export(entry, 2).grant(Image.SERVICE, 3, 0)
            .code(code);
        return image.thread(0, 0, 5, 1, 0).thread(0, export, 4, 1, 0);
    }

    private static void wakesAboveTheCurrent() {
        SweptGrants m = sleeper(1).boot(1);
        m.run(5);
        Check.due("sleeps", m.thread(0, 6), 15);
        m.run(9);
        dones("the lower one", m, 5, 9);
        m.run(1);
        dones("at its time", m, 6, 9);
        Check.due("current", m.count(1), 0);
        Check.due("times", m.count(5), 3);
    }

    private static void sleepersAboveOff() {
        SweptGrants m = sleeper(2).boot(1);
        m.run(15);
        Check.due("ready", m.thread(0, 0), 0);
        Check.due("ready at", m.thread(0, 6), -1);
        m.run(100);
        dones("the lower one stays", m, 5, 110);
    }

    private static void offButYields() {
        Image image = new Image();
        image.part(0).export(0, 2).grant(Image.SERVICE, 2, 0).code(new Code().go(0)
            .put(Asm.jal(0, -12)));
        SweptGrants m = image.thread(0, 0, 2, 1, 0).thread(0, 0, 2, 1, 0).boot(1);
        m.run(3);
        Check.due("none behind YIELD", m.count(1), -1);
        m.run(1);
        Check.due("the other", m.count(1), 1);
    }

    private static void offButSleeps() {
        Image image = new Image();
        image.part(0).export(0, 2).export(5, 1).grant(Image.SERVICE, 3, 0).code(new Code()
            .number(10, 10).go(0).put(Asm.jal(0, 0)));
        SweptGrants m = image.thread(0, 0, 2, 1, 0).thread(0, 1, 1, 1, 0).boot(1);
        m.run(6);
        Check.due("the lower one", m.count(1), 1);
        m.run(8);
        dones("while it sleeps", m, 5, 9);
        m.run(1);
        dones("and then again", m, 6, 9);
    }

    /** Off for 65 steps, then on by an ENTRY: what was due all the while comes in the next step. */
    private static void onAgain() {
        for (int above = 0; above <= 1; above++) {
            Code code = new Code().put(Asm.addi(6, 0, 30), Asm.addi(6, 6, -1), Asm.branch(1, 6, 0, -4),
                Asm.auipc(4, 0), Asm.move(4, 4, 16), Asm.inspect(12, 4, 4), Asm.jalr(0, 4, 0),
                Asm.jal(0, 0));
            int entry = code.here();
            code.number(10, 10).go(0).put(Asm.jal(0, 0));
            Image image = new Image();
            image.part(0).export(0, 2).export(entry, 1).export(entry - 1, 1)
                .grant(Image.SERVICE, 3, 0).code(code);
            SweptGrants m = image.thread(0, 0, 2, 1, 0).thread(0, 2 - above, 2 + above, 1, 0).boot(1);
            int before = 5 * above;
            m.run(before + 65);
            dones("off", m, 65, before);
            Check.due("on", m.thread(0, 3), 1);
            Check.due("current", m.count(1), 0);
            m.run(1);
            dones("the other", m, 65, before + 1);
        }
    }

    /** A thread that was sent away begins its fifty steps anew. */
    private static void sliceBeginsAnew() {
        Image image = new Image();
        Code code = new Code().number(10, 30).go(0).back();
        int entry = code.here();
        code.put(Asm.addi(6, 6, 1), Asm.jal(0, -4));
        image.part(0).export(0, 1).export(entry, 1).grant(Image.SERVICE, 3, 0).code(code);
        SweptGrants m = image.thread(0, 0, 5, 1, 0).thread(0, 1, 4, 1, 0).thread(0, 1, 4, 1, 0)
            .boot(1);
        m.run(5 + 29);
        dones("thread 1", m, 5, 29, 0);
        m.run(1);
        Check.due("woken, and failed", m.thread(0, 0), 3);
        m.run(50);
        dones("the other, which was never current", m, 5, 29, 50);
        m.run(50);
        dones("thread 1 for fifty", m, 5, 79, 50);
        m.run(1);
        dones("and the other", m, 5, 79, 51);
    }

    private static Image yielders() {
        Image image = new Image();
        image.part(0).export(0, 1).export(4, 1).grant(Image.SERVICE, 2, 0)
            .code(new Code().go(0).put(Asm.jal(0, -12), Asm.addi(6, 6, 1), Asm.jal(0, -4)));
        return image;
    }

    private static void yielding() {
        SweptGrants m = yielders().thread(0, 0, 2, 1, 0).thread(0, 0, 2, 1, 0).thread(0, 0, 2, 1, 0)
            .boot(1);
        m.run(3);
        Check.due("none behind YIELD", m.count(1), -1);
        m.run(1);
        Check.due("the next", m.count(1), 1);
        m.run(3);
        Check.due("the third", m.count(1), 2);
        m.run(3);
        Check.due("the first again", m.count(1), 0);
        Check.due("times", m.count(5), 4);
        m = yielders().thread(0, 0, 2, 1, 0).thread(0, 1, 1, 1, 0).boot(1);
        m.run(400);
        dones("never to a lower one", m, 400, 0);
    }

    private static void yieldAlone() {
        SweptGrants m = yielders().thread(0, 0, 2, 1, 0).boot(1);
        m.run(3);
        Check.due("times", m.count(5), 1);
        Check.due("current", m.count(1), -1);
        m.run(1);
        Check.due("it again", m.count(1), 0);
        Check.due("became current", m.count(5), 2);
        m.run(8);
        Check.due("and again", m.count(5), 4);
    }

    /** Both sleep; who is ready while the other sleeps becomes current for fifty steps anew. */
    private static void longestAgo() {
        Image image = new Image();
        Code code = new Code().number(10, 20).go(0).put(Asm.addi(6, 6, 1), Asm.jal(0, -4));
        int entry = code.here();
        code.number(10, 5).go(0).put(Asm.addi(6, 6, 1), Asm.jal(0, -4));
        image.part(0).export(0, 1).export(entry, 1).grant(Image.SERVICE, 3, 0).code(code);
        SweptGrants m = image.thread(0, 1, 3, 1, 0).thread(0, 0, 3, 1, 0).boot(1);
        m.run(9);
        Check.due("0 is ready at", m.thread(0, 6), 10);
        m.run(1);
        Check.due("0 is ready", m.thread(0, 0), 0);
        Check.due("1 goes on", m.count(1), 1);
        m.run(15);
        dones("0 goes on", m, 5 + 15, 5);
        Check.due("1 is ready at", m.thread(1, 6), 30);
        m.run(35);
        dones("fifty", m, 55, 5);
        m.run(1);
        dones("then the other", m, 55, 6);
    }

    /** One of its priority comes while it has run less than fifty steps, fifty, or many more. */
    private static void longerThanFifty() {
        int[][] cases = {{30, 50}, {50, 50}, {51, 50}, {52, 51}, {80, 79}};
        for (int[] one : cases) {
            Code code = new Code().number(10, one[0]).go(0).put(Asm.addi(6, 6, 1), Asm.jal(0, -4));
            int entry = code.here();
            code.put(Asm.addi(6, 6, 1), Asm.jal(0, -4));
            Image image = new Image();
            image.part(0).export(0, 1).export(entry, 1).grant(Image.SERVICE, 3, 0).code(code);
            SweptGrants m = image.thread(0, 0, 3, 1, 0).thread(0, 1, 3, 1, 0).boot(1);
            m.run(5 + one[1]);
            dones("as long as it may", m, 5, one[1]);
            m.run(1);
            dones("then the other", m, 6, one[1]);
        }
    }

    /** The step in which the last thread ends counts; there is none behind it. */
    private static void lastStep() {
        for (int n : new int[] {1, 2, 3, 5000}) {
            SweptGrants m = Image.alone(new Code().put(Asm.addi(6, 0, 1)).back());
            Check.due("run " + n, m.run(n), Math.min(2, n));
            Check.due("time", m.count(0), Math.min(2, n));
            Check.due("state", m.thread(0, 0), n == 1 ? 0 : 3);
            Check.due("what is left", m.run(n), n == 1 ? 1 : 0);
            Check.due("time", m.count(0), 2);
        }
    }

    private static void ended() {
        SweptGrants m = counting().thread(0, 2, 2, 1, 0).thread(0, 2, 2, 1, 0).boot(1);
        Check.due("run", m.run(100), 2);
        Check.due("time", m.count(0), 2);
        Check.due("current", m.count(1), 1);
        Check.due("run", m.run(100), 0);
        Check.due("run", m.run(0), 0);
        Check.due("run", m.run(-1), -1);
        Check.due("time", m.count(0), 2);
        Check.due("current", m.count(1), 1);
    }

    private static void noneReady() {
        Image image = new Image();
        image.part(0).export(0, 1).grant(Image.SERVICE, 3, 0).code(new Code().number(10, 100).go(0)
            .put(Asm.jal(0, 0)));
        SweptGrants m = image.thread(0, 0, 0, 1, 0).boot(1);
        m.run(5);
        Check.due("till the next step", m.count(1), 0);
        Check.due("run", m.run(20), 20);
        Check.due("none", m.count(1), -1);
        Check.due("time", m.count(0), 25);
        dones("nothing runs", m, 5);
        m.run(80);
        Check.due("times", m.count(5), 2);
        dones("at its time", m, 6);
    }

    /** Ready again in the very next step, it is the current one still. */
    private static void sleepOfOneStep() {
        Image image = new Image();
        image.part(0).export(0, 1).grant(Image.SERVICE, 3, 0).code(new Code().number(10, 1).go(0)
            .put(Asm.jal(0, 0)));
        SweptGrants m = image.thread(0, 0, 0, 1, 0).thread(0, 0, 0, 1, 0).boot(1);
        m.run(5);
        Check.due("sleeps", m.thread(0, 0), 1);
        m.run(1);
        Check.due("current", m.count(1), 0);
        Check.due("times", m.count(5), 1);
        m.run(44);
        Check.due("current", m.count(1), 0);
        m.run(1);
        Check.due("fifty since it became current", m.count(1), 1);
    }
}
