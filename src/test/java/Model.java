import java.util.ArrayDeque;
import java.util.ArrayList;
import java.util.Deque;
import java.util.List;
import java.util.TreeMap;

/**
 * The document read a second time, with values instead of rows that are used again and with
 * exceptions for faults; ModelTest holds the class against it.
 */
final class Model {
    private static final long WORDS = 1L << 32;
    private static final long DEVICE = 0x10000000L;
    private static final Cap NULL = new Cap(0, 0, 0, 0, 0, false);
    private static final Cap RETURN = new Cap(0, 0, 0, 0, 5, true);

    private record Cap(long cursor, long base, long top, int perms, int type, boolean tag) {
        static Cap number(long value) {
            return new Cap(wrap(value), 0, 0, 0, 0, false);
        }

        Cap cursor(long to) {
            return new Cap(wrap(to), base, top, perms, type, tag);
        }

        Cap type(int to) {
            return new Cap(cursor, base, top, perms, to, tag);
        }

        Cap perms(int to) {
            return new Cap(cursor, base, top, to, type, tag);
        }

        Cap bounds(long from, long to) {
            return new Cap(cursor, wrap(from), wrap(to), perms, type, tag);
        }

        Cap tag(boolean to) {
            return new Cap(cursor, base, top, perms, type, to);
        }

        Cap onlyIfPlain() {
            return tag(tag && type == 0);
        }

        boolean has(int wanted) {
            return (perms & wanted) == wanted;
        }

        int signed() {
            return (int) cursor;
        }

        long part(int what) {
            long[] all = {cursor, base, top, perms, type, tag ? 1 : 0};
            return what < 0 || what >= all.length ? -1 : all[what];
        }
    }

    private static final class Fault extends Exception {
        private static final long serialVersionUID = 1;
        private final int number;
        private final int place;

        Fault(int number, int place) {
            this.number = number;
            this.place = place;
        }

        Fault(int number) {
            this(number, -1);
        }
    }

    private static final class Part {
        private int words;
        private int globals;
        private final List<int[]> exports = new ArrayList<>();
        private final List<int[]> imports = new ArrayList<>();
        private final List<Integer> code = new ArrayList<>();
        private final int[] places = new int[4];

        Cap code(int export) {
            long at = places[0] + 4L * exports.get(export)[0];
            return new Cap(at, places[0], places[2], 1 | 4 | 8 | 64, 0, true);
        }

        Cap globals(int perms) {
            return new Cap(places[2], places[2], places[3], perms | 64, 0, true);
        }
    }

    private record Frame(Cap pcc, boolean on, int part, Cap c2, Cap c3, Cap c8, Cap c9) {
    }

    private static final class Line {
        private final int number;
        private final int[] told;
        private final Cap[] c = new Cap[16];
        private Cap pcc = NULL;
        private final Deque<Frame> frames = new ArrayDeque<>();
        private int stack;
        private long given;
        private int part;
        private boolean on;
        private int state;
        private boolean forSweep;
        private long wanted;
        private int fault;
        private int done;
        private long until = -1;
        private long at;
        private long since;
        private long lastCurrent = -1;

        Line(int number, int[] told) {
            this.number = number;
            this.told = told;
            for (int k = 0; k < 16; k++) {
                c[k] = NULL;
            }
        }

        int priority() {
            return told[2];
        }

        void only(int... kept) {
            for (int k = 0; k < 16; k++) {
                boolean stays = false;
                for (int one : kept) {
                    stays |= one == k;
                }
                if (!stays) {
                    c[k] = NULL;
                }
            }
        }

        Cap stack(long top) {
            return new Cap(top, stack, top, 1 | 2 | 8 | 16 | 128, 0, true);
        }

        void ready() {
            state = 0;
            until = -1;
            forSweep = false;
        }
    }

    private record Held(int top, boolean swept) {
    }

    private final int size;
    private final List<Integer> tape = new ArrayList<>();
    private final List<Integer> input = new ArrayList<>();
    private final List<Integer> output = new ArrayList<>();
    private int place = -1;
    private boolean booted;
    private int[] bytes;
    private boolean[] tags;
    private final List<Part> parts = new ArrayList<>();
    private final List<Line> lines = new ArrayList<>();
    private final TreeMap<Integer, Integer> objects = new TreeMap<>();
    private final TreeMap<Integer, Held> quarantine = new TreeMap<>();
    private int heap;
    private boolean asked;
    private int sweeper = -1;
    private int sweeps;
    private long time;
    private Line current;
    private int ran;
    private int faults;
    private int calls;
    private int services;
    private int switches;

    Model(int size) {
        this.size = 1024 * (size < 1 || size > 32 ? 8 : size);
        anew();
    }

    private static long wrap(long value) {
        return Math.floorMod(value, WORDS);
    }

    private void anew() {
        input.clear();
        output.clear();
        booted = false;
        bytes = new int[size];
        tags = new boolean[size / 16];
        parts.clear();
        lines.clear();
        objects.clear();
        quarantine.clear();
        heap = 0;
        asked = false;
        sweeper = -1;
        sweeps = 0;
        time = 0;
        current = null;
        ran = 0;
        faults = 0;
        calls = 0;
        services = 0;
        switches = 0;
    }

    // ---- the tape and what is booted from it

    boolean feed(int... five) {
        if (tape.size() > 5000 - 20) {
            return false;
        }
        for (int word : five) {
            for (int i = 3; i >= 0; i--) {
                tape.add(word >>> 8 * i & 255);
            }
        }
        return true;
    }

    int boot(int n) {
        if (n < 0 || n > tape.size()) {
            return -1;
        }
        List<Integer> text = new ArrayList<>(tape.subList(0, n));
        tape.clear();
        anew();
        place = -1;
        try {
            new Reader(text).image();
            layOut(text.size());
        } catch (Fault fault) {
            anew();
            place = fault.place;
            return fault.number;
        }
        booted = true;
        return 0;
    }

    private final class Reader {
        private final List<Integer> text;
        private int at;
        private final List<int[]> exportsMeant = new ArrayList<>();

        Reader(List<Integer> text) {
            this.text = text;
        }

        int one() throws Fault {
            if (at >= text.size()) {
                throw new Fault(1, text.size());
            }
            return text.get(at++);
        }

        int number(int least, int most) throws Fault {
            int from = at;
            int value = one();
            if (value < least || value > most) {
                throw new Fault(2, from);
            }
            return value;
        }

        int two(int least, int most) throws Fault {
            int from = at;
            int value = one();
            value += one() << 8;
            if (value < least || value > most) {
                throw new Fault(2, from);
            }
            return value;
        }

        /** The compartment's byte, and the export's or -1 if only the compartment is meant. */
        int[] meant(int compartment, int export) {
            int[] both = {compartment, export};
            exportsMeant.add(both);
            return both;
        }

        void image() throws Fault {
            int partCount = number(1, 8);
            int lineCount = number(1, 6);
            for (int i = 0; i < partCount; i++) {
                parts.add(part());
            }
            for (int i = 0; i < lineCount; i++) {
                meant(at, at + 1);
                lines.add(new Line(i, new int[] {number(0, 255), number(0, 255), number(0, 7),
                    number(1, 32), number(0, 16)}));
            }
            for (int[] both : exportsMeant) {
                int x = text.get(both[0]);
                if (x >= parts.size()) {
                    throw new Fault(3, both[0]);
                }
                if (both[1] >= 0 && text.get(both[1]) >= parts.get(x).exports.size()) {
                    throw new Fault(3, both[1]);
                }
            }
            if (at < text.size()) {
                throw new Fault(4, at);
            }
        }

        Part part() throws Fault {
            Part made = new Part();
            made.words = two(1, 200);
            made.globals = number(0, 32);
            int exports = number(0, 8);
            int imports = number(0, 16);
            for (int i = 0; i < exports; i++) {
                made.exports.add(new int[] {two(0, made.words - 1), number(1, 3)});
            }
            for (int i = 0; i < imports; i++) {
                made.imports.add(grant());
            }
            for (int i = 0; i < 4 * made.words; i++) {
                made.code.add(one());
            }
            return made;
        }

        int[] grant() throws Fault {
            int kind = number(0, 4);
            int from = at;
            int[][] limits = {{0, 255, 0, 255}, {0, 8, 0, 0}, {1, 3, 0, 0}, {0, 239, 1, 16},
                {0, 255, 1, 27}};
            int x = number(limits[kind][0], limits[kind][1]);
            int y = number(limits[kind][2], limits[kind][3]);
            if (kind == 4 && (y & 4) != 0) {
                throw new Fault(2, from + 1);
            }
            if (kind == 0) {
                meant(from, from + 1);
            } else if (kind == 4) {
                meant(from, -1);
            }
            return new int[] {kind, x, y};
        }
    }

    private void layOut(int end) throws Fault {
        int at = 0;
        for (Part part : parts) {
            part.places[0] = at;
            at += 16 * ((part.words + 3) / 4);
            part.places[1] = at;
            at += 16 * part.imports.size();
            part.places[2] = at;
            at += 16 * part.globals;
            part.places[3] = at;
        }
        for (Line line : lines) {
            line.stack = at;
            at += 16 * line.told[3];
            line.given = at;
        }
        heap = at;
        if (heap + 16 > size) {
            throw new Fault(5, end);
        }
        for (Part part : parts) {
            for (int i = 0; i < part.code.size(); i++) {
                bytes[part.places[0] + i] = part.code.get(i);
            }
            for (int i = 0; i < part.imports.size(); i++) {
                keep(part.places[1] + 16 * i, granted(part.imports.get(i)), true);
            }
        }
        for (Line line : lines) {
            Part home = parts.get(line.told[0]);
            line.part = line.told[0];
            line.on = home.exports.get(line.told[1])[1] != 2;
            line.pcc = home.code(line.told[1]);
            line.c[1] = RETURN;
            line.c[2] = line.stack(line.given);
            line.c[3] = home.globals(27);
        }
    }

    private Cap granted(int[] one) {
        int x = one[1];
        int y = one[2];
        switch (one[0]) {
            case 0:
                return new Cap(16 * x + y, 0, 0, 64, 4, true);
            case 1:
                return new Cap(x, 0, 0, 64, 6, true);
            case 2:
                return new Cap(DEVICE, DEVICE, DEVICE + 16, 64 | x, 0, true);
            case 3:
                return new Cap(8 + x, 8 + x, 8 + x + y, 64 | 32, 0, true);
            default:
                return parts.get(x).globals(y);
        }
    }

    // ---- memory and authorities

    private long number(long at, int n) {
        long value = 0;
        for (int i = 0; i < n; i++) {
            value += (long) bytes[(int) at + i] << 8 * i;
        }
        return value;
    }

    private void write(long at, int n, long value) {
        for (int i = 0; i < n; i++) {
            bytes[(int) at + i] = (int) (value >>> 8 * i & 255);
        }
        tags[(int) at / 16] = false;
    }

    private void keep(long at, Cap cap, boolean tag) {
        write(at, 4, cap.cursor);
        write(at + 4, 4, cap.base);
        write(at + 8, 4, cap.top);
        write(at + 12, 4, cap.perms + 256L * cap.type);
        tags[(int) at / 16] = tag;
    }

    private Cap kept(long at) {
        long kind = number(at + 12, 4);
        return new Cap(number(at, 4), number(at + 4, 4), number(at + 8, 4), (int) (kind & 255),
            (int) (kind >> 8 & 255), tags[(int) at / 16]);
    }

    private void erase(long from, long behind) {
        for (long at = from; at < behind; at++) {
            write(at, 1, 0);
        }
    }

    private boolean revoked(long address) {
        for (var one : quarantine.entrySet()) {
            if (address >= one.getKey() && address < one.getValue().top) {
                return true;
            }
        }
        return false;
    }

    private Cap filter(Cap cap) {
        return cap.tag(cap.tag && (cap.has(32) || !revoked(cap.base)));
    }

    private void filterAll(Line line) {
        for (int k = 0; k < 16; k++) {
            line.c[k] = filter(line.c[k]);
        }
        line.pcc = filter(line.pcc);
    }

    private static long authorized(Cap a, int wanted, long address, int n) throws Fault {
        long at = wrap(address);
        if (!a.tag) {
            throw new Fault(1);
        }
        if (a.type != 0) {
            throw new Fault(2);
        }
        if (!a.has(wanted)) {
            throw new Fault(3);
        }
        for (int i = 0; i < n; i++) {
            if (at + i < a.base || at + i >= a.top) {
                throw new Fault(4);
            }
        }
        if (at % n != 0) {
            throw new Fault(5);
        }
        return at;
    }

    // ---- a step

    int run(int n) {
        if (n < 0 || n > 5000) {
            return -1;
        }
        int steps = 0;
        while (booted && steps < n && lines.stream().anyMatch(line -> line.state != 3)) {
            step();
            steps++;
        }
        return steps;
    }

    private void step() {
        time++;
        for (Line line : lines) {
            if ((line.state == 1 || line.state == 2) && !line.forSweep && line.until <= time) {
                line.ready();
            }
        }
        choose();
        if (current != null) {
            Line line = current;
            line.lastCurrent = time;
            ran++;
            try {
                instruction(line);
                line.done++;
            } catch (Fault fault) {
                faults++;
                line.fault = fault.number;
                back(line);
                if (line.state != 3) {
                    line.c[10] = Cap.number(-1);
                    line.c[11] = Cap.number(fault.number);
                }
            }
            line.c[0] = NULL;
        }
        sweep();
    }

    private void choose() {
        if (current != null && current.state == 0) {
            boolean above = false;
            boolean beside = false;
            for (Line line : lines) {
                if (line != current && line.state == 0) {
                    above |= line.priority() > current.priority();
                    beside |= line.priority() == current.priority();
                }
            }
            if (!current.on || !above && !(beside && ran >= 50)) {
                return;
            }
        }
        Line before = current;
        current = null;
        for (Line line : lines) {
            if (line.state == 0 && (current == null || line.priority() > current.priority()
                || line.priority() == current.priority() && line.lastCurrent < current.lastCurrent)) {
                current = line;
            }
        }
        ran = 0;
        if (current != null) {
            if (current != before) {
                switches++;
            }
            filterAll(current);
        }
    }

    private void sweep() {
        if (sweeper >= 0) {
            for (int i = 0; i < 4; i++, sweeper++) {
                tags[sweeper] = filter(kept(16L * sweeper)).tag;
            }
            if (sweeper == tags.length) {
                endSweep();
            }
            return;
        }
        int held = heapBytes(3);
        if (held > 0 && (asked || 4 * held >= size - heap)) {
            sweeper = 0;
            asked = false;
            quarantine.replaceAll((base, one) -> new Held(one.top, true));
        }
        if (held == 0) {
            asked = false;
        }
    }

    private void endSweep() {
        for (Line line : lines) {
            filterAll(line);
            List<Frame> all = new ArrayList<>(line.frames);
            line.frames.clear();
            for (Frame one : all) {
                line.frames.addLast(filter(one));
            }
        }
        quarantine.values().removeIf(Held::swept);
        sweeper = -1;
        sweeps++;
        for (Line line : lines) {
            if (line.forSweep) {
                line.c[10] = object(line.wanted);
                line.ready();
            }
        }
    }

    private Frame filter(Frame one) {
        return new Frame(filter(one.pcc), one.on, one.part, filter(one.c2), filter(one.c3),
            filter(one.c8), filter(one.c9));
    }

    // ---- an instruction

    private static int bits(int word, int from, int to) {
        return word >>> from & (1 << to - from + 1) - 1;
    }

    private static int d(int word) {
        return bits(word, 7, 11);
    }

    private static int f(int word) {
        return bits(word, 12, 14);
    }

    private static int a(int word) {
        return bits(word, 15, 19);
    }

    private static int b(int word) {
        return bits(word, 20, 24);
    }

    private static int g(int word) {
        return bits(word, 25, 31);
    }

    private static int signed(int value, int width) {
        return value >= 1 << width - 1 ? value - (1 << width) : value;
    }

    private static int immediate(int word) {
        return signed(bits(word, 20, 31), 12);
    }

    /** Which of d, a, b the instruction uses, as a text; null if it is none. */
    private static String used(int word) {
        int f = f(word);
        int g = g(word);
        switch (bits(word, 0, 6)) {
            case 0x37:
            case 0x17:
            case 0x6F:
                return "d";
            case 0x63:
                return f == 2 || f == 3 ? null : "ab";
            case 0x13:
                return f == 1 && g != 0 || f == 5 && g != 0 && g != 32 ? null : "da";
            case 0x33:
                return g == 0 || g == 1 || g == 32 && (f == 0 || f == 5) ? "dab" : null;
            case 0x03:
                return f > 5 ? null : "da";
            case 0x23:
                return f > 3 ? null : "ab";
            case 0x5B:
                if (f == 0) {
                    return g > 7 ? null : "dab";
                }
                return f == 1 && (g != 0 || b(word) > 12) || f > 3 ? null : "da";
            case 0x67:
                return f != 0 ? null : "da";
            default:
                return null;
        }
    }

    private static boolean legal(int word) {
        String used = used(word);
        return used != null && (used.indexOf('d') < 0 || d(word) < 16)
            && (used.indexOf('a') < 0 || a(word) < 16) && (used.indexOf('b') < 0 || b(word) < 16);
    }

    private void instruction(Line line) throws Fault {
        long at = authorized(line.pcc, 4, line.pcc.cursor, 4);
        int word = (int) number(at, 4);
        if (!legal(word)) {
            throw new Fault(6);
        }
        Cap link = line.pcc.cursor(at + 4).type(line.on ? 3 : 2);
        Cap next = line.pcc.cursor(at + 4);
        int upper = bits(word, 12, 31) << 12;
        switch (bits(word, 0, 6)) {
            case 0x37:
                line.c[d(word)] = Cap.number(upper);
                break;
            case 0x17:
                line.c[d(word)] = line.pcc.cursor(at + upper);
                break;
            case 0x6F:
                line.c[d(word)] = link;
                next = line.pcc.cursor(at + signed(bits(word, 31, 31) << 20
                    | bits(word, 12, 19) << 12 | bits(word, 20, 20) << 11
                    | bits(word, 21, 30) << 1, 21));
                break;
            case 0x63:
                if (branches(f(word), line.c[a(word)], line.c[b(word)])) {
                    next = line.pcc.cursor(at + signed(bits(word, 31, 31) << 12
                        | bits(word, 7, 7) << 11 | bits(word, 25, 30) << 5
                        | bits(word, 8, 11) << 1, 13));
                }
                break;
            case 0x13:
                line.c[d(word)] = Cap.number(byNumber(word, line.c[a(word)]));
                break;
            case 0x33:
                line.c[d(word)] = Cap.number(byRegisters(word, line.c[a(word)], line.c[b(word)]));
                break;
            case 0x03:
                line.c[d(word)] = loaded(line, word);
                break;
            case 0x23:
                store(line, word);
                break;
            case 0x5B:
                line.c[d(word)] = made(line, word);
                break;
            default:
                jump(line, word, link, next);
                return;
        }
        line.pcc = next;
    }

    private static boolean branches(int f, Cap a, Cap b) {
        switch (f) {
            case 0:
                return a.cursor == b.cursor;
            case 1:
                return a.cursor != b.cursor;
            case 4:
                return a.signed() < b.signed();
            case 5:
                return a.signed() >= b.signed();
            case 6:
                return a.cursor < b.cursor;
            default:
                return a.cursor >= b.cursor;
        }
    }

    private static long byNumber(int word, Cap a) {
        int by = immediate(word);
        switch (f(word)) {
            case 0:
                return a.cursor + by;
            case 1:
                return a.cursor << b(word);
            case 2:
                return a.signed() < by ? 1 : 0;
            case 3:
                return a.cursor < wrap(by) ? 1 : 0;
            case 4:
                return a.cursor ^ by;
            case 5:
                return g(word) == 32 ? a.signed() >> b(word) : a.cursor >> b(word);
            case 6:
                return a.cursor | by;
            default:
                return a.cursor & by;
        }
    }

    private static long byRegisters(int word, Cap a, Cap b) {
        long x = a.cursor;
        long y = b.cursor;
        switch (f(word) + 8 * (g(word) == 32 ? 2 : g(word))) {
            case 0:
                return x + y;
            case 1:
                return x << y % 32;
            case 2:
                return a.signed() < b.signed() ? 1 : 0;
            case 3:
                return x < y ? 1 : 0;
            case 4:
                return x ^ y;
            case 5:
                return x >> y % 32;
            case 6:
                return x | y;
            case 7:
                return x & y;
            case 8:
                return x * y;
            case 9:
                return Math.floorDiv((long) a.signed() * b.signed(), WORDS);
            case 10:
                return Math.floorDiv(a.signed() * y, WORDS);
            case 11:
                return Math.multiplyHigh(x << 16, y << 16);
            case 12:
                return y == 0 ? -1 : (long) a.signed() / b.signed();
            case 13:
                return y == 0 ? -1 : x / y;
            case 14:
                return y == 0 ? x : (long) a.signed() % b.signed();
            case 15:
                return y == 0 ? x : x % y;
            case 16:
                return x - y;
            default:
                return a.signed() >> y % 32;
        }
    }

    private Cap loaded(Line line, int word) throws Fault {
        Cap a = line.c[a(word)];
        int f = f(word);
        int n = new int[] {1, 2, 4, 16, 1, 2}[f];
        long at = authorized(a, 1, a.cursor + immediate(word), n);
        if (at >= DEVICE) {
            if (f != 2) {
                throw new Fault(5);
            }
            return Cap.number(at == DEVICE ? input.isEmpty() ? -1 : input.remove(0)
                : at == DEVICE + 4 ? time : at == DEVICE + 8 ? line.number : 0);
        }
        if (f == 3) {
            Cap found = kept(at);
            return filter(found.tag(found.tag && a.has(8)));
        }
        long value = number(at, n);
        return Cap.number(f == 0 ? (byte) value : f == 1 ? (short) value : value);
    }

    private void store(Line line, int word) throws Fault {
        Cap a = line.c[a(word)];
        Cap b = line.c[b(word)];
        int f = f(word);
        int n = new int[] {1, 2, 4, 16}[f];
        long at = authorized(a, 2, a.cursor + signed(g(word) << 5 | d(word), 12), n);
        if (at >= DEVICE) {
            if (f != 2) {
                throw new Fault(5);
            }
            if (at == DEVICE) {
                output.add((int) (b.cursor & 255));
                if (output.size() > 500) {
                    output.remove(0);
                }
            }
        } else if (f == 3) {
            keep(at, b, b.tag && a.has(16) && (b.has(64) || a.has(128)));
        } else {
            write(at, n, b.cursor);
        }
    }

    private Cap made(Line line, int word) {
        Cap a = line.c[a(word)];
        Cap b = line.c[b(word) % 16];
        switch (f(word)) {
            case 0:
                return derived(g(word), a, b);
            case 1:
                return looked(b(word), a, line.on);
            case 2:
                return a.cursor(a.cursor + immediate(word)).onlyIfPlain();
            default:
                return narrowed(a, bits(word, 20, 31));
        }
    }

    private static Cap narrowed(Cap a, long n) {
        boolean right = a.cursor >= a.base && a.cursor + n <= a.top;
        Cap made = a.bounds(a.cursor, a.cursor + n).onlyIfPlain();
        return right ? made : made.tag(false);
    }

    private static boolean seals(Cap b) {
        return b.tag && b.type == 0 && b.has(32) && b.cursor >= b.base && b.cursor < b.top
            && b.cursor >= 8 && b.cursor <= 255;
    }

    private static Cap derived(int g, Cap a, Cap b) {
        switch (g) {
            case 0:
                return a.cursor(a.cursor + b.cursor).onlyIfPlain();
            case 1:
                return a.cursor(b.cursor).onlyIfPlain();
            case 2:
                return narrowed(a, b.cursor);
            case 3:
                return a.perms((int) (a.perms & b.cursor)).onlyIfPlain();
            case 4:
                return a.tag && a.type == 0 && seals(b) ? a.type((int) b.cursor) : a.tag(false);
            case 5:
                if (!a.tag || !seals(b) || a.type != b.cursor) {
                    return a.tag(false);
                }
                return a.type(0).perms(b.has(64) ? a.perms : a.perms & 191);
            case 6:
                return Cap.number(b.base >= a.base && b.top <= a.top && (b.perms & ~a.perms) == 0
                    && a.tag == b.tag ? 1 : 0);
            default:
                return Cap.number(a.equals(b) ? 1 : 0);
        }
    }

    private static Cap looked(int selector, Cap a, boolean on) {
        switch (selector) {
            case 8:
                return a;
            case 9:
                return a.tag(false);
            case 10:
            case 11:
            case 12:
                return a.tag && a.type == 0 && a.has(4) ? a.type(selector - 9) : a.tag(false);
            default:
                long[] numbers = {a.perms, a.type, a.base, a.top - a.base, a.tag ? 1 : 0, a.top,
                    a.cursor, on ? 1 : 0};
                return Cap.number(numbers[selector]);
        }
    }

    // ---- jumps, calls and returns

    private void jump(Line line, int word, Cap link, Cap behind) throws Fault {
        Cap a = line.c[a(word)];
        int by = immediate(word);
        if (!a.tag) {
            throw new Fault(1);
        }
        if (a.type == 0 && !a.has(4)) {
            throw new Fault(3);
        }
        if (a.type != 0 && (by != 0 || a.type > 6)) {
            throw new Fault(2);
        }
        line.c[d(word)] = link;
        line.c[0] = NULL;
        line.pcc = behind;
        if (a.type < 4) {
            line.pcc = a.cursor(a.cursor + by).type(0);
            line.on = a.type == 3 || a.type != 2 && line.on;
        } else if (a.type == 4) {
            call(line, (int) a.cursor / 16, (int) a.cursor % 16);
        } else if (a.type == 5) {
            back(line);
        } else {
            services++;
            serve(line, (int) a.cursor);
        }
    }

    private void call(Line line, int part, int export) throws Fault {
        Cap c2 = line.c[2];
        if (!c2.tag || c2.type != 0 || !c2.has(2) || c2.base != line.stack || c2.top != line.given
            || c2.cursor < c2.base || c2.cursor > c2.top || c2.cursor % 16 != 0) {
            throw new Fault(7);
        }
        if (line.frames.size() == line.told[4]) {
            line.c[10] = Cap.number(-1);
            line.c[11] = Cap.number(8);
            return;
        }
        calls++;
        line.frames.addLast(new Frame(line.pcc, line.on, line.part, c2, line.c[3], line.c[8],
            line.c[9]));
        erase(line.stack, c2.cursor);
        Part callee = parts.get(part);
        int mode = callee.exports.get(export)[1];
        line.part = part;
        line.on = mode == 3 || mode == 1 && line.on;
        line.pcc = callee.code(export);
        line.only(10, 11, 12, 13, 14, 15);
        line.c[1] = RETURN;
        line.c[2] = line.stack(c2.cursor);
        line.c[3] = callee.globals(27);
        line.given = c2.cursor;
    }

    private void back(Line line) {
        if (line.frames.isEmpty()) {
            line.only();
            line.pcc = NULL;
            line.state = 3;
            return;
        }
        Frame last = filter(line.frames.removeLast());
        line.only(10, 11);
        line.pcc = last.pcc;
        line.on = last.on;
        line.part = last.part;
        line.c[2] = last.c2;
        line.c[3] = last.c3;
        line.c[8] = last.c8;
        line.c[9] = last.c9;
        line.given = last.c2.top;
        erase(line.stack, last.c2.cursor);
    }

    // ---- services

    private void serve(Line line, int service) {
        Cap answer = answer(line, service);
        line.only(2, 3, 8, 9);
        filterAll(line);
        line.c[10] = answer;
    }

    private Cap answer(Line line, int service) {
        Cap c10 = line.c[10];
        switch (service) {
            case 0:
                return alloc(line, c10.cursor);
            case 1:
                return Cap.number(free(c10) ? 0 : -1);
            case 2:
                current = null;
                return NULL;
            case 3:
                if (c10.cursor < 1 || c10.cursor > 10000) {
                    return Cap.number(-1);
                }
                line.state = 1;
                line.until = time + c10.cursor;
                return NULL;
            case 4:
                return Cap.number(await(line, c10, line.c[11].cursor, line.c[12].cursor));
            case 5:
                return Cap.number(wake(c10, line.c[11].cursor));
            case 6:
                asked = true;
                return NULL;
            case 7:
                return Cap.number(line.number);
            default:
                return Cap.number(heapBytes(4));
        }
    }

    private Cap alloc(Line line, long n) {
        if (n < 1 || n > size - heap) {
            return NULL;
        }
        Cap made = object(n);
        if (!made.tag && !quarantine.isEmpty()) {
            if (sweeper < 0) {
                asked = true;
            }
            line.state = 1;
            line.forSweep = true;
            line.wanted = n;
        }
        return made;
    }

    private Cap object(long n) {
        int rounded = (int) ((n + 15) / 16 * 16);
        for (int at = heap; at + rounded <= size; at += 16) {
            if (isFree(at, at + rounded)) {
                objects.put(at, at + rounded);
                erase(at, at + rounded);
                return new Cap(at, at, at + rounded, 1 | 2 | 8 | 16 | 64, 0, true);
            }
        }
        return NULL;
    }

    private boolean isFree(int from, int behind) {
        for (var one : objects.entrySet()) {
            if (one.getKey() < behind && one.getValue() > from) {
                return false;
            }
        }
        for (var one : quarantine.entrySet()) {
            if (one.getKey() < behind && one.getValue().top > from) {
                return false;
            }
        }
        return true;
    }

    private boolean free(Cap cap) {
        if (!cap.tag || cap.type != 0 || !cap.has(2) || cap.base >= size) {
            return false;
        }
        Integer top = objects.get((int) cap.base);
        if (top == null || top != cap.top) {
            return false;
        }
        objects.remove((int) cap.base);
        quarantine.put((int) cap.base, new Held(top, false));
        return true;
    }

    private boolean isWord(Cap cap, int wanted) {
        try {
            return authorized(cap, wanted, cap.cursor, 4) < size;
        } catch (Fault fault) {
            return false;
        }
    }

    private int await(Line line, Cap word, long due, long steps) {
        if (!isWord(word, 1) || steps > 10000) {
            return -1;
        }
        if (number(word.cursor, 4) != due) {
            return 1;
        }
        line.state = 2;
        line.at = word.cursor;
        line.since = time;
        line.until = time + steps;
        return 2;
    }

    private int wake(Cap word, long most) {
        if (!isWord(word, 2)) {
            return -1;
        }
        List<Line> found = new ArrayList<>();
        for (Line line : lines) {
            if (line.state == 2 && line.at == word.cursor) {
                found.add(line);
            }
        }
        found.sort((x, y) -> x.priority() != y.priority() ? y.priority() - x.priority()
            : Long.compare(x.since, y.since));
        int woken = (int) Math.min(most, found.size());
        for (Line line : found.subList(0, woken)) {
            line.ready();
            line.c[10] = NULL;
        }
        return woken;
    }

    // ---- the calls that look

    int place() {
        return place;
    }

    boolean input(int c) {
        return booted && c >= 0 && c <= 255 && input.size() < 64 && input.add(c);
    }

    long fetch() {
        long n = Math.min(7, output.size());
        long answer = n;
        for (int i = 0; i < 7; i++) {
            answer = answer << 8 | (i < n ? output.remove(0) : 0);
        }
        return answer;
    }

    long register(int t, int k, int what) {
        if (t < 0 || t >= lines.size() || k < 0 || k > 16) {
            return -1;
        }
        return (k == 16 ? lines.get(t).pcc : lines.get(t).c[k]).part(what);
    }

    long memory(int address, int n) {
        boolean right = booted && address >= 0 && (n == 1 || n == 2 || n == 4)
            && (long) address + n <= size;
        return right ? number(address, n) : -1;
    }

    int tag(int granule) {
        if (!booted || granule < 0 || granule >= tags.length) {
            return -1;
        }
        return (tags[granule] ? 1 : 0) + (revoked(16L * granule) ? 2 : 0);
    }

    int thread(int t, int what) {
        if (t < 0 || t >= lines.size() || what < 0 || what > 7) {
            return -1;
        }
        Line line = lines.get(t);
        return new int[] {line.state, line.part, line.frames.size(), line.on ? 1 : 0, line.fault,
            line.done, (int) line.until, line.stack}[what];
    }

    int compartment(int c, int what) {
        return c < 0 || c >= parts.size() || what < 0 || what > 3 ? -1 : parts.get(c).places[what];
    }

    private int heapBytes(int what) {
        int given = 0;
        int held = 0;
        for (var one : objects.entrySet()) {
            given += one.getValue() - one.getKey();
        }
        for (var one : quarantine.entrySet()) {
            held += one.getValue().top - one.getKey();
        }
        return what == 2 ? given : what == 3 ? held : size - heap - given - held;
    }

    int heap(int what) {
        if (!booted) {
            return -1;
        }
        switch (what) {
            case 0:
                return heap;
            case 1:
                return objects.size();
            case 2:
            case 3:
            case 4:
                return heapBytes(what);
            case 5:
                return sweeps;
            case 6:
                return sweeper;
            default:
                List<Integer> places = new ArrayList<>(objects.keySet());
                return what < 8 || what - 8 >= places.size() ? -1 : places.get(what - 8);
        }
    }

    int count(int what) {
        int[] all = {(int) time, current == null ? -1 : current.number, faults, calls, services,
            switches, tape.size(), output.size(), input.size(), booted ? 1 : 0};
        return what < 0 || what >= all.length ? -1 : all[what];
    }
}
