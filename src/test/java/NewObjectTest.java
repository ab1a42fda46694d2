/** Promise 1: so much memory, an empty tape and input, and nothing booted. */
public final class NewObjectTest {
    public static void main(String[] args) {
        sizes();
        for (int size : new int[] {1, 8, 32, 0, 33}) {
            nothingBooted(new SweptGrants(size));
        }
        Check.end();
    }

    private static void sizes() {
        int[][] cases = {
            {1, 1}, {2, 2}, {17, 17}, {31, 31}, {32, 32},
            {0, 8}, {33, 8}, {-1, 8}, {Integer.MAX_VALUE, 8}, {Integer.MIN_VALUE, 8}};
        for (int[] one : cases) {
            String name = "size " + one[0] + ": ";
            int bytes = one[1] * 1024;
            Image image = new Image();
            image.part(0).export(0, 1);
            SweptGrants x = image.thread(0, 0, 0, 1, 0).boot(one[0]);
            Check.due(name + "last byte", x.memory(bytes - 1, 1), 0);
            Check.due(name + "behind it", x.memory(bytes, 1), -1);
            Check.due(name + "last granule", x.tag(bytes / 16 - 1), 0);
            Check.due(name + "granule behind it", x.tag(bytes / 16), -1);
            Check.due(name + "heap", x.heap(0) + x.heap(4), bytes);
        }
    }

    private static void nothingBooted(SweptGrants x) {
        for (int what = -1; what <= 10; what++) {
            int due = what == 1 || what < 0 || what > 9 ? -1 : 0;
            Check.due("count " + what, x.count(what), due);
            Check.due("heap " + what, x.heap(what), -1);
            Check.due("thread " + what, x.thread(0, what), -1);
            Check.due("compartment " + what, x.compartment(0, what), -1);
            Check.due("register " + what, x.register(0, 0, what), -1);
            Check.due("broken " + what, x.broken(what), 0);
        }
        Check.due("place", x.place(), -1);
        Check.due("run", x.run(7), 0);
        Check.due("run too many", x.run(5001), -1);
        Check.due("input", x.input(0), false);
        Check.due("fetch", x.fetch(), 0);
        Check.due("memory", x.memory(0, 1), -1);
        Check.due("tag", x.tag(0), -1);
        Check.due("time", x.count(0), 0);
        Check.due("boot of nothing", x.boot(0), 1);
    }
}
