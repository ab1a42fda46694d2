import java.util.ArrayList;
import java.util.List;

/** The code of a compartment, word by word; imports are found behind it. */
final class Code {
    private final List<Integer> words = new ArrayList<>();
    private final List<int[]> taken = new ArrayList<>();

    Code put(int... more) {
        for (int word : more) {
            words.add(word);
        }
        return this;
    }

    /** Two words. */
    Code number(int d, int value) {
        int low = value << 20 >> 20;
        return put(Asm.lui(d, value - low), Asm.addi(d, d, low));
    }

    /** Two words: import k comes to d. */
    Code take(int d, int k) {
        taken.add(new int[] {words.size() + 1, d, k});
        return put(Asm.auipc(d, 0), 0);
    }

    /** Three words: import k is called, or served, by way of c5. */
    Code go(int k) {
        return take(5, k).put(Asm.jalr(1, 5, 0));
    }

    /** One word: the thread goes back, or ends, as long as c1 is what it was given. */
    Code back() {
        return put(Asm.jalr(0, 1, 0));
    }

    int here() {
        return words.size();
    }

    int[] words() {
        int importsAt = (words.size() * 4 + 15) / 16 * 16;
        int[] made = new int[words.size()];
        for (int i = 0; i < made.length; i++) {
            made[i] = words.get(i);
        }
        for (int[] one : taken) {
            int offset = importsAt + 16 * one[2] - 4 * (one[0] - 1);
            made[one[0]] = Asm.loadCap(one[1], one[1], offset);
        }
        return made;
    }
}
