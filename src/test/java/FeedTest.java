/** Promise 2: twenty bytes a call, the highest of the first number first, 5000 at the most. */
public final class FeedTest {
    public static void main(String[] args) {
        order();
        limit();
        Check.end();
    }

    /** One compartment of six words, whose bytes can be seen in memory. */
    private static void order() {
        SweptGrants x = new SweptGrants(1);
        Check.due("feed", x.feed(0x01010600, 0x00010000, 0x0001A1A2, 0xA3A4B1B2, 0xB3B4C1C2), true);
        Check.due("bytes", x.count(6), 20);
        Check.due("feed", x.feed(0xC3C4D1D2, 0xD3D4E1E2, 0xE3E4F1F2, 0xF3F40000, 0x00010099), true);
        Check.due("bytes", x.count(6), 40);
        Check.due("boot", x.boot(39), 0);
        Check.due("the tape is empty then", x.count(6), 0);
        long[] words = {0xA4A3A2A1L, 0xB4B3B2B1L, 0xC4C3C2C1L, 0xD4D3D2D1L, 0xE4E3E2E1L, 0xF4F3F2F1L};
        for (int i = 0; i < words.length; i++) {
            Check.due("word " + i, x.memory(4 * i, 4), words[i]);
        }
    }

    private static void limit() {
        SweptGrants x = new SweptGrants(8);
        for (int i = 1; i <= 250; i++) {
            Check.due("feed " + i, x.feed(-1, -1, -1, -1, -1), true);
            Check.due("bytes", x.count(6), 20 * i);
        }
        Check.due("feed 251", x.feed(1, 2, 3, 4, 5), false);
        Check.due("bytes stay", x.count(6), 5000);
        Check.due("refused boot", x.boot(5001), -1);
        Check.due("bytes stay", x.count(6), 5000);
        Check.due("boot", x.boot(5000), 2);
        Check.due("bytes", x.count(6), 0);
        Check.due("feed again", x.feed(0, 0, 0, 0, 0), true);
        Check.due("bytes", x.count(6), 20);
    }
}
