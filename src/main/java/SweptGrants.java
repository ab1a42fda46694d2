import java.util.Arrays;

/** A machine whose pointers are capabilities; ../shared/DOC.md says what each call promises. */
public final class SweptGrants {
    private static final int GRANULE = 16;
    private static final int WORD = 4;
    private static final int NONE = -1;
    private static final long ALL_ONES = 0xFFFFFFFFL;

    private static final int READ = 1;
    private static final int WRITE = 2;
    private static final int RUN = 4;
    private static final int TAKE = 8;
    private static final int GIVE = 16;
    private static final int SEAL = 32;
    private static final int GLOBAL = 64;
    private static final int LOCAL = 128;
    private static final int OF_CODE = READ | RUN | TAKE | GLOBAL;
    private static final int OF_DATA = READ | WRITE | TAKE | GIVE | GLOBAL;
    private static final int OF_STACK = READ | WRITE | TAKE | GIVE | LOCAL;

    private static final int PLAIN = 0;
    private static final int ENTRY_AS_IS = 1;
    private static final int ENTRY_OFF = 2;
    private static final int ENTRY_ON = 3;
    private static final int EXPORT = 4;
    private static final int RETURN = 5;
    private static final int SERVICE = 6;
    private static final int FIRST_SEALED = 8;
    private static final int LAST_SEALED = 255;

    private static final int NO_FAULT = 0;
    private static final int FAULT_TAG = 1;
    private static final int FAULT_SEALED = 2;
    private static final int FAULT_PERMIT = 3;
    private static final int FAULT_BOUNDS = 4;
    private static final int FAULT_ALIGN = 5;
    private static final int FAULT_ILLEGAL = 6;
    private static final int FAULT_STACK = 7;
    private static final int NO_FRAME_LEFT = 8;

    private static final int READY = 0;
    private static final int SLEEPS = 1;
    private static final int WAITS = 2;
    private static final int ENDED = 3;
    private static final int SLEEPS_FOR_SWEEP = 4;

    private static final int DEVICE = 0x10000000;
    private static final int MOST_COMPARTMENTS = 8;
    private static final int MOST_THREADS = 6;
    private static final int MOST_FRAMES = 16;
    private static final int MOST_STEPS = 5000;
    private static final int MOST_INPUT = 64;
    private static final int MOST_OUTPUT = 500;
    private static final int FETCHED_AT_ONCE = 7;

    private final World world;
    private final Loader loader;

    public SweptGrants(int size) {
        int kilobytes = size >= 1 && size <= 32 ? size : 8;
        world = new World(kilobytes * 1024 / GRANULE);
        loader = new Loader();
    }

    public boolean feed(int a, int b, int c, int d, int e) {
        if (!loader.hasRoom(5 * WORD)) {
            return false;
        }
        loader.append(a);
        loader.append(b);
        loader.append(c);
        loader.append(d);
        loader.append(e);
        return true;
    }

    public int boot(int n) {
        if (n < 0 || n > loader.length) {
            return NONE;
        }
        return loader.load(world, n);
    }

    public int place() {
        return loader.place;
    }

    public int run(int n) {
        if (n < 0 || n > MOST_STEPS) {
            return NONE;
        }
        int steps = 0;
        while (steps < n && !world.stands()) {
            world.tick();
            Cpu.instruction(world);
            world.sweep();
            steps++;
        }
        return steps;
    }

    public boolean input(int c) {
        if (c < 0 || c > 255 || !world.booted || world.input.length >= MOST_INPUT) {
            return false;
        }
        world.input.push(c);
        return true;
    }

    public long fetch() {
        int n = Math.min(FETCHED_AT_ONCE, world.output.length);
        long answer = (long) n << 56;
        for (int i = 0; i < n; i++) {
            answer |= (long) world.output.pull() << (48 - 8 * i);
        }
        return answer;
    }

    public long register(int t, int k, int what) {
        Task task = world.taskAt(t);
        if (task == null || k < 0 || k > 16) {
            return NONE;
        }
        return (k == 16 ? task.pcc : task.reg(k)).part(what);
    }

    public long memory(int address, int n) {
        if (n != 1 && n != 2 && n != 4 || !world.booted || !world.store.has(address, n)) {
            return NONE;
        }
        return unsigned(world.store.load(address, n));
    }

    public int tag(int granule) {
        if (!world.booted || granule < 0 || granule >= world.store.marks.length) {
            return NONE;
        }
        return world.store.marks[granule];
    }

    public int thread(int t, int what) {
        Task task = world.taskAt(t);
        return task == null ? NONE : task.part(what);
    }

    public int compartment(int c, int what) {
        Compartment found = world.compartmentAt(c);
        return found == null ? NONE : found.part(what);
    }

    public int heap(int what) {
        return world.booted ? world.heap.part(what) : NONE;
    }

    public int count(int what) {
        return what == 6 ? loader.length : world.part(what);
    }

    /** The books that the document leaves free: none are kept. */
    public int broken(int what) {
        return 0;
    }

    private static long unsigned(int word) {
        return word & ALL_ONES;
    }

    /** A capability: registers, PCCs and frames hold these, memory holds their 16 bytes. */
    private static final class Cap {
        int cursor;
        int base;
        int top;
        int perms;
        int type;
        boolean tagged;

        void set(int cursor, int base, int top, int perms, int type, boolean tagged) {
            this.cursor = cursor;
            this.base = base;
            this.top = top;
            this.perms = perms;
            this.type = type;
            this.tagged = tagged;
        }

        void copy(Cap from) {
            set(from.cursor, from.base, from.top, from.perms, from.type, from.tagged);
        }

        void number(int value) {
            set(value, 0, 0, 0, PLAIN, false);
        }

        void clear() {
            set(0, 0, 0, 0, PLAIN, false);
        }

        boolean has(int wanted) {
            return (perms & wanted) == wanted;
        }

        boolean isPlainWith(int wanted) {
            return tagged && type == PLAIN && (perms & wanted) == wanted;
        }

        boolean holds(int address, int size) {
            long first = address & ALL_ONES;
            return first >= (base & ALL_ONES) && first + size <= (top & ALL_ONES);
        }

        /** The fault of using it as an authority; the size is a power of two. */
        int faultFor(int wanted, int address, int size) {
            if (!tagged) {
                return FAULT_TAG;
            }
            if (type != PLAIN) {
                return FAULT_SEALED;
            }
            if (!has(wanted)) {
                return FAULT_PERMIT;
            }
            if (!holds(address, size)) {
                return FAULT_BOUNDS;
            }
            return (address & (size - 1)) == 0 ? NO_FAULT : FAULT_ALIGN;
        }

        void moveTo(int address) {
            cursor = address;
            tagged &= type == PLAIN;
        }

        void narrow(long size) {
            long first = unsigned(cursor);
            long behind = first + size;
            tagged &= type == PLAIN && first >= unsigned(base) && behind <= unsigned(top);
            base = cursor;
            top = (int) behind;
        }

        void limit(int wanted) {
            perms &= wanted;
            tagged &= type == PLAIN;
        }

        boolean canSeal() {
            return isPlainWith(SEAL) && holds(cursor, 1)
                && cursor >= FIRST_SEALED && cursor <= LAST_SEALED;
        }

        void seal(Cap sealer) {
            if (tagged && type == PLAIN && sealer.canSeal()) {
                type = sealer.cursor;
            } else {
                tagged = false;
            }
        }

        void unseal(Cap sealer) {
            if (tagged && type == sealer.cursor && sealer.canSeal()) {
                type = PLAIN;
                if (!sealer.has(GLOBAL)) {
                    perms &= ~GLOBAL;
                }
            } else {
                tagged = false;
            }
        }

        void becomeEntry(int entry) {
            if (isPlainWith(RUN)) {
                type = entry;
            } else {
                tagged = false;
            }
        }

        boolean isWithin(Cap other) {
            return unsigned(base) >= unsigned(other.base) && unsigned(top) <= unsigned(other.top)
                && other.has(perms) && tagged == other.tagged;
        }

        boolean isLike(Cap other) {
            return cursor == other.cursor && base == other.base && top == other.top
                && perms == other.perms && type == other.type && tagged == other.tagged;
        }

        long part(int what) {
            switch (what) {
                case 0: return unsigned(cursor);
                case 1: return unsigned(base);
                case 2: return unsigned(top);
                case 3: return perms;
                case 4: return type;
                case 5: return tagged ? 1 : 0;
                default: return NONE;
            }
        }
    }

    /** Memory, with the marks of its granules. */
    private static final class Store {
        static final int TAGGED = 1;
        static final int REVOKED = 2;

        final byte[] bytes;
        final byte[] marks;

        Store(int granules) {
            bytes = new byte[granules * GRANULE];
            marks = new byte[granules];
        }

        void reset() {
            Arrays.fill(bytes, (byte) 0);
            Arrays.fill(marks, (byte) 0);
        }

        boolean has(int address, int n) {
            return address >= 0 && address <= bytes.length - n;
        }

        int load(int address, int n) {
            int value = 0;
            if (has(address, n)) {
                for (int i = n - 1; i >= 0; i--) {
                    value = value << 8 | bytes[address + i] & 255;
                }
            }
            return value;
        }

        void write(int address, int n, int value) {
            if (has(address, n)) {
                int left = value;
                for (int i = 0; i < n; i++) {
                    bytes[address + i] = (byte) left;
                    left >>>= 8;
                }
                mark(address, TAGGED, false);
            }
        }

        void loadCap(int address, Cap into, boolean take) {
            int kind = load(address + 12, WORD);
            into.set(load(address, WORD), load(address + 4, WORD), load(address + 8, WORD),
                kind & 255, kind >> 8 & 255, take && isMarked(address, TAGGED));
            filter(into);
        }

        void writeCap(int address, Cap from, boolean tagged) {
            write(address, WORD, from.cursor);
            write(address + 4, WORD, from.base);
            write(address + 8, WORD, from.top);
            write(address + 12, WORD, from.perms | from.type << 8);
            mark(address, TAGGED, tagged);
        }

        /** Both ends are multiples of 16. */
        void erase(int from, int behind) {
            if (from >= 0 && from <= behind && behind <= bytes.length) {
                for (int i = from; i < behind; i++) {
                    bytes[i] = 0;
                }
                for (int g = from / GRANULE; g < behind / GRANULE && g < marks.length; g++) {
                    marks[g] &= ~TAGGED;
                }
            }
        }

        boolean isMarked(int address, int mark) {
            int granule = address / GRANULE;
            return address >= 0 && granule < marks.length && (marks[granule] & mark) != 0;
        }

        void mark(int address, int mark, boolean on) {
            int granule = address / GRANULE;
            if (address >= 0 && granule < marks.length) {
                int others = marks[granule] & ~mark;
                marks[granule] = (byte) (on ? others | mark : others);
            }
        }

        /** Seals are kept, for their base is a type and no address. */
        void filter(Cap cap) {
            if (cap.tagged && !cap.has(SEAL) && isMarked(cap.base, REVOKED)) {
                cap.tagged = false;
            }
        }

        void filterGranule(int granule) {
            int address = granule * GRANULE;
            if (isMarked(address, TAGGED) && (load(address + 12, 1) & SEAL) == 0
                && isMarked(load(address + 4, WORD), REVOKED)) {
                mark(address, TAGGED, false);
            }
        }
    }

    /** Who has which granules of the heap, and how far the sweeper is. */
    private static final class Heap {
        static final int FREE = 0;
        static final int OBJECT = 1;
        static final int HELD = 2;
        static final int SWEPT = 3;
        static final int SWEPT_AT_ONCE = 4;

        /** At an object's first granule how many it has; else 0. */
        final int[] sizes;
        /** At an object's first granule what becomes of it; else FREE. */
        final int[] uses;
        int first;
        int objects;
        int given;
        int held;
        int sweeps;
        int next = NONE;
        boolean asked;

        Heap(int granules) {
            sizes = new int[granules];
            uses = new int[granules];
        }

        void reset(int from) {
            Arrays.fill(sizes, 0);
            Arrays.fill(uses, FREE);
            first = Math.max(0, from);
            objects = 0;
            given = 0;
            held = 0;
            sweeps = 0;
            next = NONE;
            asked = false;
        }

        boolean has(int granule) {
            return granule >= first && granule < sizes.length;
        }

        int bytes() {
            return (sizes.length - first) * GRANULE;
        }

        int freeBytes() {
            return bytes() - (given + held) * GRANULE;
        }

        /** The first granule of a new object; NONE without room. */
        int reserve(int wanted) {
            int from = room(wanted);
            if (has(from)) {
                sizes[from] = wanted;
                uses[from] = OBJECT;
                objects++;
                given += wanted;
            }
            return from;
        }

        int room(int wanted) {
            int free = 0;
            for (int g = first; g < sizes.length; g += sizes[g] > 0 ? sizes[g] : 1) {
                free = sizes[g] > 0 ? 0 : free + 1;
                if (free == wanted) {
                    return g - wanted + 1;
                }
            }
            return NONE;
        }

        boolean isObject(int base, int top) {
            int granule = base / GRANULE;
            return base >= 0 && base % GRANULE == 0 && has(granule) && uses[granule] == OBJECT
                && top == base + sizes[granule] * GRANULE;
        }

        void hold(int granule) {
            if (has(granule)) {
                uses[granule] = HELD;
                objects--;
                given -= sizes[granule];
                held += sizes[granule];
            }
        }

        void beginSweepIfDue() {
            boolean due = held > 0 && (asked || 4 * held >= sizes.length - first);
            asked &= held > 0 && !due;
            if (due) {
                next = 0;
                for (int g = first; g < sizes.length; g += Math.max(1, sizes[g])) {
                    if (uses[g] == HELD) {
                        uses[g] = SWEPT;
                    }
                }
            }
        }

        void endSweep(Store store) {
            next = NONE;
            sweeps++;
            int size;
            for (int g = first; g < sizes.length; g += Math.max(1, size)) {
                size = sizes[g];
                if (uses[g] == SWEPT) {
                    uses[g] = FREE;
                    sizes[g] = 0;
                    held -= size;
                    revoke(store, g, size, false);
                }
            }
        }

        void revoke(Store store, int granule, int size, boolean on) {
            for (int i = 0; i < size; i++) {
                store.mark((granule + i) * GRANULE, Store.REVOKED, on);
            }
        }

        int placeOf(int k) {
            int left = k;
            for (int g = first; g < sizes.length; g += Math.max(1, sizes[g])) {
                if (uses[g] == OBJECT) {
                    if (left == 0) {
                        return g * GRANULE;
                    }
                    left--;
                }
            }
            return NONE;
        }

        int part(int what) {
            switch (what) {
                case 0: return first * GRANULE;
                case 1: return objects;
                case 2: return given * GRANULE;
                case 3: return held * GRANULE;
                case 4: return freeBytes();
                case 5: return sweeps;
                case 6: return next;
                default: return what >= 8 ? placeOf(what - 8) : NONE;
            }
        }
    }

    /** Bytes in a row, of which the oldest goes when there are too many. */
    private static final class Ring {
        final byte[] bytes;
        int first;
        int length;

        Ring(int most) {
            bytes = new byte[most];
        }

        void reset() {
            first = 0;
            length = 0;
        }

        int at(int index) {
            return index >= bytes.length ? index - bytes.length : index;
        }

        void push(int value) {
            if (length >= bytes.length) {
                pull();
            }
            int at = at(first + length);
            if (at >= 0 && at < bytes.length) {
                bytes[at] = (byte) value;
                length++;
            }
        }

        /** The oldest byte; all ones if there is none. */
        int pull() {
            if (length <= 0 || first < 0 || first >= bytes.length) {
                return NONE;
            }
            int value = bytes[first] & 255;
            first = at(first + 1);
            length--;
            return value;
        }
    }

    private static final class Compartment {
        static final int MOST_EXPORTS = 8;

        final int[] entries = new int[MOST_EXPORTS];
        final int[] interrupts = new int[MOST_EXPORTS];
        int words;
        int globals;
        int exports;
        int imports;
        int importsText;
        int codeText;
        int codeAt;
        int importsAt;
        int globalsAt;
        int behind;

        int arrange(int from) {
            codeAt = from;
            importsAt = from + (words * WORD + GRANULE - 1) / GRANULE * GRANULE;
            globalsAt = importsAt + imports * GRANULE;
            behind = globalsAt + globals * GRANULE;
            return behind;
        }

        boolean hasExport(int export) {
            return export >= 0 && export < exports && export < MOST_EXPORTS;
        }

        void codeTo(Cap cap, int export) {
            int entry = hasExport(export) ? entries[export] : 0;
            cap.set(codeAt + entry * WORD, codeAt, globalsAt, OF_CODE, PLAIN, true);
        }

        void globalsTo(Cap cap, int perms) {
            cap.set(globalsAt, globalsAt, behind, perms, PLAIN, true);
        }

        boolean interruptsAt(int export, boolean before) {
            int mode = hasExport(export) ? interrupts[export] : ENTRY_AS_IS;
            return mode == ENTRY_AS_IS ? before : mode == ENTRY_ON;
        }

        int part(int what) {
            switch (what) {
                case 0: return codeAt;
                case 1: return importsAt;
                case 2: return globalsAt;
                case 3: return behind;
                default: return NONE;
            }
        }
    }

    /** What a call keeps of its caller. */
    private static final class Frame {
        final Cap pcc = new Cap();
        final Cap c2 = new Cap();
        final Cap c3 = new Cap();
        final Cap c8 = new Cap();
        final Cap c9 = new Cap();
        boolean interrupts;
        int compartment;

        void filterBy(Store store) {
            store.filter(pcc);
            store.filter(c2);
            store.filter(c3);
            store.filter(c8);
            store.filter(c9);
        }
    }

    /** A thread of the machine. */
    private static final class Task {
        static final int REGISTERS = 16;

        final int number;
        final Cap[] regs = new Cap[REGISTERS];
        final Cap pcc = new Cap();
        final Frame[] frames = new Frame[MOST_FRAMES];
        int frameCount;
        int frameLimit;
        int priority;
        int stackBase;
        int stackTop;
        int compartment;
        boolean interrupts;
        int state;
        int readyAt;
        int waitAddress;
        int waitSince;
        int wanted;
        int latestFault;
        int done;
        int lastCurrent;

        Task(int number) {
            this.number = number;
            for (int i = 0; i < REGISTERS; i++) {
                regs[i] = new Cap();
            }
            for (int i = 0; i < MOST_FRAMES; i++) {
                frames[i] = new Frame();
            }
        }

        Cap reg(int k) {
            return regs[k & REGISTERS - 1];
        }

        void begin(int priority, int frameLimit) {
            this.priority = priority;
            this.frameLimit = Math.min(frameLimit, MOST_FRAMES);
            forgetAll();
            interrupts = true;
            state = READY;
            readyAt = NONE;
            waitAddress = NONE;
            waitSince = 0;
            wanted = 0;
            latestFault = NO_FAULT;
            done = 0;
            lastCurrent = NONE;
        }

        void end() {
            forgetAll();
            state = ENDED;
        }

        void forgetAll() {
            for (Cap cap : regs) {
                cap.clear();
            }
            pcc.clear();
            frameCount = 0;
        }

        void forget(int from, int last) {
            for (int k = from; k <= last; k++) {
                reg(k).clear();
            }
        }

        /** All but c2, c3, c8, c9 and the answers in c10, c11. */
        void forgetOthers() {
            forget(0, 1);
            forget(4, 7);
            forget(12, 15);
        }

        /** The stack up to its new top is what the compartment is given. */
        void enter(Compartment home, int homeNumber, int export, int top) {
            forget(0, 9);
            compartment = homeNumber;
            interrupts = home.interruptsAt(export, interrupts);
            home.codeTo(pcc, export);
            reg(1).set(0, 0, 0, 0, RETURN, true);
            reg(2).set(top, stackBase, top, OF_STACK, PLAIN, true);
            home.globalsTo(reg(3), OF_DATA);
            stackTop = top;
        }

        boolean stackIsAsGiven() {
            Cap stack = reg(2);
            return stack.isPlainWith(WRITE) && stack.base == stackBase && stack.top == stackTop
                && stack.holds(stack.cursor, 0) && stack.cursor % GRANULE == 0;
        }

        boolean hasFrameLeft() {
            return frameCount >= 0 && frameCount < frameLimit && frameCount < MOST_FRAMES;
        }

        void keepFrame() {
            if (hasFrameLeft()) {
                Frame frame = frames[frameCount];
                frame.pcc.copy(pcc);
                frame.c2.copy(reg(2));
                frame.c3.copy(reg(3));
                frame.c8.copy(reg(8));
                frame.c9.copy(reg(9));
                frame.interrupts = interrupts;
                frame.compartment = compartment;
                frameCount++;
            }
        }

        void giveBack(Store store) {
            if (frameCount <= 0 || frameCount > MOST_FRAMES) {
                end();
                return;
            }
            frameCount--;
            Frame frame = frames[frameCount];
            frame.filterBy(store);
            pcc.copy(frame.pcc);
            reg(2).copy(frame.c2);
            reg(3).copy(frame.c3);
            reg(8).copy(frame.c8);
            reg(9).copy(frame.c9);
            interrupts = frame.interrupts;
            compartment = frame.compartment;
            stackTop = frame.c2.top;
            forgetOthers();
            store.erase(stackBase, frame.c2.cursor);
        }

        void fail(Store store, int fault) {
            latestFault = fault;
            giveBack(store);
            if (state != ENDED) {
                reg(10).number(-1);
                reg(11).number(fault);
            }
        }

        void filterBy(Store store) {
            for (Cap cap : regs) {
                store.filter(cap);
            }
            store.filter(pcc);
        }

        void filterFramesBy(Store store) {
            for (int i = 0; i < frameCount && i < MOST_FRAMES; i++) {
                frames[i].filterBy(store);
            }
        }

        void restUntil(int time, int newState) {
            state = newState;
            readyAt = time;
        }

        void becomeReady() {
            state = READY;
            readyAt = NONE;
        }

        boolean isDue(int time) {
            return (state == SLEEPS || state == WAITS) && readyAt <= time;
        }

        boolean goesBefore(Task other) {
            return priority > other.priority
                || priority == other.priority && lastCurrent < other.lastCurrent;
        }

        boolean isWokenBefore(Task other) {
            return priority > other.priority
                || priority == other.priority && waitSince < other.waitSince;
        }

        int part(int what) {
            switch (what) {
                case 0: return state == SLEEPS_FOR_SWEEP ? SLEEPS : state;
                case 1: return compartment;
                case 2: return frameCount;
                case 3: return interrupts ? 1 : 0;
                case 4: return latestFault;
                case 5: return done;
                case 6: return readyAt;
                case 7: return stackBase;
                default: return NONE;
            }
        }
    }

    /** All that a boot begins anew: memory, heap, devices, compartments, threads and time. */
    private static final class World {
        static final int SLICE = 50;

        final Store store;
        final Heap heap;
        final Ring input = new Ring(MOST_INPUT);
        final Ring output = new Ring(MOST_OUTPUT);
        final Compartment[] compartments = new Compartment[MOST_COMPARTMENTS];
        final Task[] tasks = new Task[MOST_THREADS];
        /** For results whose register may be one of the operands. */
        final Cap scratch = new Cap();
        int compartmentCount;
        int taskCount;
        boolean booted;
        int time;
        int current = NONE;
        int ran;
        int faults;
        int calls;
        int services;
        int switches;

        World(int granules) {
            store = new Store(granules);
            heap = new Heap(granules);
            for (int i = 0; i < MOST_COMPARTMENTS; i++) {
                compartments[i] = new Compartment();
            }
            for (int i = 0; i < MOST_THREADS; i++) {
                tasks[i] = new Task(i);
            }
        }

        void reset() {
            store.reset();
            heap.reset(0);
            input.reset();
            output.reset();
            compartmentCount = 0;
            taskCount = 0;
            booted = false;
            time = 0;
            current = NONE;
            ran = 0;
            faults = 0;
            calls = 0;
            services = 0;
            switches = 0;
        }

        void open(int compartments, int tasks) {
            compartmentCount = Math.min(compartments, MOST_COMPARTMENTS);
            taskCount = Math.min(tasks, MOST_THREADS);
            booted = true;
        }

        Task taskAt(int t) {
            return t >= 0 && t < taskCount && t < MOST_THREADS ? tasks[t] : null;
        }

        Compartment compartmentAt(int c) {
            return c >= 0 && c < compartmentCount && c < MOST_COMPARTMENTS ? compartments[c] : null;
        }

        boolean stands() {
            for (int i = 0; i < taskCount; i++) {
                if (tasks[i].state != ENDED) {
                    return false;
                }
            }
            return true;
        }

        void tick() {
            time++;
            for (int i = 0; i < taskCount; i++) {
                if (tasks[i].isDue(time)) {
                    tasks[i].becomeReady();
                }
            }
            Task now = taskAt(current);
            if (now == null || now.state != READY || mustLeave(now)) {
                makeCurrent(best());
            }
            Task chosen = taskAt(current);
            if (chosen != null) {
                chosen.lastCurrent = time;
                ran++;
            }
        }

        boolean mustLeave(Task now) {
            int least = ran >= SLICE ? now.priority : now.priority + 1;
            for (int i = 0; i < taskCount; i++) {
                if (i != now.number && tasks[i].state == READY && tasks[i].priority >= least) {
                    return now.interrupts;
                }
            }
            return false;
        }

        int best() {
            int best = NONE;
            for (int i = 0; i < taskCount; i++) {
                Task found = taskAt(best);
                if (tasks[i].state == READY && (found == null || tasks[i].goesBefore(found))) {
                    best = i;
                }
            }
            return best;
        }

        void makeCurrent(int t) {
            current = t;
            ran = 0;
            Task chosen = taskAt(t);
            if (chosen != null) {
                switches++;
                chosen.filterBy(store);
            }
        }

        void sweep() {
            if (heap.next < 0) {
                heap.beginSweepIfDue();
                return;
            }
            for (int i = 0; i < Heap.SWEPT_AT_ONCE; i++) {
                store.filterGranule(heap.next + i);
            }
            heap.next += Heap.SWEPT_AT_ONCE;
            if (heap.next >= store.marks.length) {
                endSweep();
            }
        }

        void endSweep() {
            for (int i = 0; i < taskCount; i++) {
                tasks[i].filterBy(store);
                tasks[i].filterFramesBy(store);
            }
            heap.endSweep(store);
            for (int i = 0; i < taskCount; i++) {
                if (tasks[i].state == SLEEPS_FOR_SWEEP) {
                    grant(tasks[i].wanted, tasks[i].reg(10));
                    tasks[i].becomeReady();
                }
            }
        }

        boolean grant(int granules, Cap into) {
            int place = heap.reserve(granules) * GRANULE;
            if (place < 0) {
                into.clear();
                return false;
            }
            int behind = place + granules * GRANULE;
            store.erase(place, behind);
            into.set(place, place, behind, OF_DATA, PLAIN, true);
            return true;
        }

        int readDevice(Task task, int address) {
            switch (address - DEVICE) {
                case 0: return input.pull();
                case 4: return time;
                case 8: return task.number;
                default: return 0;
            }
        }

        void writeDevice(int address, int value) {
            if (address == DEVICE) {
                output.push(value);
            }
        }

        int part(int what) {
            switch (what) {
                case 0: return time;
                case 1: return current;
                case 2: return faults;
                case 3: return calls;
                case 4: return services;
                case 5: return switches;
                case 7: return output.length;
                case 8: return input.length;
                case 9: return booted ? 1 : 0;
                default: return NONE;
            }
        }
    }

    /** The tape, and how an image on it becomes a world. */
    private static final class Loader {
        static final int MOST_TAPE = 5000;
        static final int AT_END = 1;
        static final int WRONG_NUMBER = 2;
        static final int NO_SUCH = 3;
        static final int SOMETHING_BEHIND = 4;
        static final int NO_ROOM = 5;
        static final int IMPORT_TEXT = 3;
        static final int TASK_TEXT = 5;

        final byte[] tape = new byte[MOST_TAPE];
        int length;
        int at;
        int end;
        int fault;
        int place = NONE;
        int compartments;
        int tasks;
        int tasksText;
        int heapAt;

        boolean hasRoom(int bytes) {
            return length + bytes <= MOST_TAPE;
        }

        void append(int word) {
            for (int shift = 24; shift >= 0; shift -= 8) {
                if (length >= 0 && length < MOST_TAPE) {
                    tape[length] = (byte) (word >>> shift);
                    length++;
                }
            }
        }

        int byteAt(int index) {
            return index >= 0 && index < MOST_TAPE ? tape[index] & 255 : 0;
        }

        int load(World world, int n) {
            world.reset();
            at = 0;
            end = n;
            length = 0;
            fault = 0;
            place = NONE;
            readImage(world);
            if (fault == 0) {
                checkTargets(world);
            }
            if (fault == 0 && at != end) {
                fail(SOMETHING_BEHIND, at);
            }
            if (fault == 0) {
                arrange(world);
            }
            if (fault == 0) {
                build(world);
            }
            return fault;
        }

        /** The first one stays. */
        void fail(int number, int where) {
            if (fault == 0) {
                fault = number;
                place = where;
            }
        }

        /** The next number, of one or two bytes; behind a fault nothing more is read. */
        int number(int bytes, int least, int most) {
            if (fault != 0) {
                return least;
            }
            if (at + bytes > end) {
                fail(AT_END, end);
                return least;
            }
            int value = bytes == 2 ? byteAt(at) + 256 * byteAt(at + 1) : byteAt(at);
            if (value < least || value > most) {
                fail(WRONG_NUMBER, at);
                return least;
            }
            at += bytes;
            return value;
        }

        void readImage(World world) {
            compartments = number(1, 1, MOST_COMPARTMENTS);
            tasks = number(1, 1, MOST_THREADS);
            for (int i = 0; i < compartments && i < MOST_COMPARTMENTS; i++) {
                readCompartment(world.compartments[i]);
            }
            tasksText = at;
            for (int i = 0; i < tasks; i++) {
                number(1, 0, 255);
                number(1, 0, 255);
                number(1, 0, 7);
                number(1, 1, 32);
                number(1, 0, MOST_FRAMES);
            }
        }

        void readCompartment(Compartment part) {
            part.words = number(2, 1, 200);
            part.globals = number(1, 0, 32);
            part.exports = number(1, 0, Compartment.MOST_EXPORTS);
            part.imports = number(1, 0, 16);
            for (int i = 0; i < part.exports && i < Compartment.MOST_EXPORTS; i++) {
                part.entries[i] = number(2, 0, part.words - 1);
                part.interrupts[i] = number(1, ENTRY_AS_IS, ENTRY_ON);
            }
            part.importsText = at;
            for (int i = 0; i < part.imports; i++) {
                readImport();
            }
            part.codeText = at;
            skip(part.words * WORD);
        }

        void readImport() {
            switch (number(1, 0, 4)) {
                case 0:
                    number(1, 0, 255);
                    number(1, 0, 255);
                    break;
                case 1:
                    number(1, 0, Services.LAST);
                    number(1, 0, 0);
                    break;
                case 2:
                    number(1, READ, READ | WRITE);
                    number(1, 0, 0);
                    break;
                case 3:
                    number(1, 0, 239);
                    number(1, 1, 16);
                    break;
                default:
                    number(1, 0, 255);
                    readGlobalsPerms();
            }
        }

        void readGlobalsPerms() {
            int most = READ | WRITE | TAKE | GIVE;
            int perms = number(1, 1, most);
            if ((perms & ~most) != 0) {
                fail(WRONG_NUMBER, at - 1);
            }
        }

        void skip(int bytes) {
            if (at + bytes > end) {
                fail(AT_END, end);
            } else {
                at += bytes;
            }
        }

        void checkTargets(World world) {
            for (int i = 0; i < compartments && i < MOST_COMPARTMENTS; i++) {
                Compartment part = world.compartments[i];
                for (int k = 0; k < part.imports; k++) {
                    int text = part.importsText + k * IMPORT_TEXT;
                    int kind = byteAt(text);
                    if (kind == 0) {
                        checkExport(world, text + 1);
                    } else if (kind == 4) {
                        checkCompartment(text + 1);
                    }
                }
            }
            for (int i = 0; i < tasks; i++) {
                checkExport(world, tasksText + i * TASK_TEXT);
            }
        }

        void checkCompartment(int text) {
            if (byteAt(text) >= compartments) {
                fail(NO_SUCH, text);
            }
        }

        void checkExport(World world, int text) {
            checkCompartment(text);
            int number = byteAt(text);
            if (number < MOST_COMPARTMENTS
                && !world.compartments[number].hasExport(byteAt(text + 1))) {
                fail(NO_SUCH, text + 1);
            }
        }

        void arrange(World world) {
            int from = 0;
            for (int i = 0; i < compartments && i < MOST_COMPARTMENTS; i++) {
                from = world.compartments[i].arrange(from);
            }
            for (int i = 0; i < tasks && i < MOST_THREADS; i++) {
                world.tasks[i].stackBase = from;
                from += byteAt(tasksText + i * TASK_TEXT + 3) * GRANULE;
                world.tasks[i].stackTop = from;
            }
            heapAt = from;
            if (!world.store.has(heapAt, GRANULE)) {
                fail(NO_ROOM, end);
            }
        }

        void build(World world) {
            world.open(compartments, tasks);
            world.heap.reset(heapAt / GRANULE);
            for (int i = 0; i < compartments && i < MOST_COMPARTMENTS; i++) {
                Compartment part = world.compartments[i];
                for (int k = 0; k < part.words * WORD; k++) {
                    world.store.write(part.codeAt + k, 1, byteAt(part.codeText + k));
                }
                for (int k = 0; k < part.imports; k++) {
                    makeImport(world, part.importsText + k * IMPORT_TEXT);
                    world.store.writeCap(part.importsAt + k * GRANULE, world.scratch,
                        world.scratch.tagged);
                }
            }
            for (int i = 0; i < tasks && i < MOST_THREADS; i++) {
                makeTask(world, world.tasks[i], tasksText + i * TASK_TEXT);
            }
        }

        void makeImport(World world, int text) {
            int x = byteAt(text + 1);
            int y = byteAt(text + 2);
            Cap made = world.scratch;
            made.clear();
            switch (byteAt(text)) {
                case 0:
                    made.set(16 * x + y, 0, 0, GLOBAL, EXPORT, true);
                    break;
                case 1:
                    made.set(x, 0, 0, GLOBAL, SERVICE, true);
                    break;
                case 2:
                    made.set(DEVICE, DEVICE, DEVICE + 16, x | GLOBAL, PLAIN, true);
                    break;
                case 3:
                    int low = FIRST_SEALED + x;
                    made.set(low, low, low + y, SEAL | GLOBAL, PLAIN, true);
                    break;
                default:
                    Compartment owner = world.compartmentAt(x);
                    if (owner != null) {
                        owner.globalsTo(made, y | GLOBAL);
                    }
            }
        }

        void makeTask(World world, Task task, int text) {
            int number = byteAt(text);
            Compartment home = world.compartmentAt(number);
            if (home != null) {
                task.begin(byteAt(text + 2), byteAt(text + 4));
                task.enter(home, number, byteAt(text + 1), task.stackTop);
            }
        }
    }

    /** One instruction of the current thread; the handlers answer a fault's number. */
    private static final class Cpu {
        static final int LUI = 0x37;
        static final int ADD_TO_PCC = 0x17;
        static final int JUMP = 0x6F;
        static final int BRANCH = 0x63;
        static final int IMMEDIATE = 0x13;
        static final int REGISTERS = 0x33;
        static final int LOAD = 0x03;
        static final int STORE = 0x23;
        static final int CAPABILITY = 0x5B;
        static final int JUMP_TO = 0x67;
        static final int OTHER = 32;

        static int f(int word) {
            return word >>> 12 & 7;
        }

        static int g(int word) {
            return word >>> 25;
        }

        static int dField(int word) {
            return word >>> 7 & 31;
        }

        static int aField(int word) {
            return word >>> 15 & 31;
        }

        static int bField(int word) {
            return word >>> 20 & 31;
        }

        static int immediate(int word) {
            return word >> 20;
        }

        static int storeOffset(int word) {
            return word >> 25 << 5 | dField(word);
        }

        static int branchOffset(int word) {
            return word >> 31 << 12 | (word >>> 7 & 1) << 11
                | (word >>> 25 & 63) << 5 | (word >>> 8 & 15) << 1;
        }

        static int jumpOffset(int word) {
            return word >> 31 << 20 | (word >>> 12 & 255) << 12
                | (word >>> 20 & 1) << 11 | (word >>> 21 & 1023) << 1;
        }

        static void instruction(World world) {
            Task task = world.taskAt(world.current);
            if (task == null) {
                return;
            }
            int fault = task.pcc.faultFor(RUN, task.pcc.cursor, WORD);
            if (fault == NO_FAULT) {
                int word = world.store.load(task.pcc.cursor, WORD);
                if (!isLegal(word)) {
                    fault = FAULT_ILLEGAL;
                } else if ((word & 127) == JUMP_TO) {
                    fault = jumpTo(world, task, word);
                } else {
                    fault = execute(world, task, word);
                }
            }
            if (fault == NO_FAULT) {
                task.done++;
            } else {
                world.faults++;
                task.fail(world.store, fault);
            }
            task.reg(0).clear();
        }

        static boolean isLegal(int word) {
            int f = f(word);
            int g = g(word);
            boolean d = dField(word) < 16;
            boolean a = aField(word) < 16;
            boolean b = bField(word) < 16;
            switch (word & 127) {
                case LUI:
                case ADD_TO_PCC:
                case JUMP:
                    return d;
                case BRANCH:
                    return a && b && f != 2 && f != 3;
                case IMMEDIATE:
                    return d && a && (f != 1 && f != 5 || g == 0 || f == 5 && g == OTHER);
                case REGISTERS:
                    return d && a && b && (g <= 1 || g == OTHER && (f == 0 || f == 5));
                case LOAD:
                    return d && a && f <= 5;
                case STORE:
                    return a && b && f <= 3;
                case CAPABILITY:
                    return d && a && isLegalCapability(f, g, bField(word));
                case JUMP_TO:
                    return d && a && f == 0;
                default:
                    return false;
            }
        }

        static boolean isLegalCapability(int f, int g, int b) {
            switch (f) {
                case 0: return b < 16 && g <= 7;
                case 1: return b <= 12 && g == 0;
                default: return f <= 3;
            }
        }

        /** All but JUMP_TO. */
        static int execute(World world, Task task, int word) {
            Cap d = task.reg(dField(word));
            int fault = NO_FAULT;
            int way = WORD;
            switch (word & 127) {
                case LUI:
                    d.number(word & 0xFFFFF000);
                    break;
                case ADD_TO_PCC:
                    d.copy(task.pcc);
                    d.cursor += word & 0xFFFFF000;
                    break;
                case JUMP:
                    link(task, d);
                    way = jumpOffset(word);
                    break;
                case BRANCH:
                    way = branches(task, word) ? branchOffset(word) : WORD;
                    break;
                case IMMEDIATE:
                    d.number(withImmediate(task, word));
                    break;
                case REGISTERS:
                    d.number(withRegisters(task, word));
                    break;
                case LOAD:
                    fault = load(world, task, word);
                    break;
                case STORE:
                    fault = write(world, task, word);
                    break;
                default:
                    capability(world, task, word);
            }
            if (fault == NO_FAULT) {
                task.pcc.cursor += way;
            }
            return fault;
        }

        static void link(Task task, Cap d) {
            d.copy(task.pcc);
            d.cursor += WORD;
            d.type = task.interrupts ? ENTRY_ON : ENTRY_OFF;
        }

        static boolean branches(Task task, int word) {
            int x = task.reg(aField(word)).cursor;
            int y = task.reg(bField(word)).cursor;
            switch (f(word)) {
                case 0: return x == y;
                case 1: return x != y;
                case 4: return x < y;
                case 5: return x >= y;
                case 6: return unsigned(x) < unsigned(y);
                default: return unsigned(x) >= unsigned(y);
            }
        }

        static int withImmediate(Task task, int word) {
            int f = f(word);
            boolean other = f == 5 && g(word) == OTHER;
            return combine(f, task.reg(aField(word)).cursor, immediate(word), other);
        }

        static int withRegisters(Task task, int word) {
            int x = task.reg(aField(word)).cursor;
            int y = task.reg(bField(word)).cursor;
            if (g(word) != 1) {
                return combine(f(word), x, y, g(word) == OTHER);
            }
            return f(word) < 4 ? multiply(f(word), x, y) : divide(f(word), x, y);
        }

        /** Shifts are by y modulo 32; the other of 0 is the difference, of 5 the one with sign. */
        static int combine(int f, int x, int y, boolean other) {
            switch (f) {
                case 0: return other ? x - y : x + y;
                case 1: return x << (y & 31);
                case 2: return x < y ? 1 : 0;
                case 3: return unsigned(x) < unsigned(y) ? 1 : 0;
                case 4: return x ^ y;
                case 5: return other ? x >> (y & 31) : x >>> (y & 31);
                case 6: return x | y;
                default: return x & y;
            }
        }

        static int multiply(int f, int x, int y) {
            switch (f) {
                case 0: return x * y;
                case 1: return (int) ((long) x * y >> 32);
                case 2: return (int) (x * unsigned(y) >> 32);
                default: return (int) (unsigned(x) * unsigned(y) >>> 32);
            }
        }

        static int divide(int f, int x, int y) {
            boolean quotient = f < 6;
            if (y == 0) {
                return quotient ? -1 : x;
            }
            boolean signed = f == 4 || f == 6;
            long first = signed ? x : unsigned(x);
            long second = signed ? y : unsigned(y);
            return (int) (quotient ? first / second : first % second);
        }

        static int sizeOf(int f) {
            return f == 3 ? GRANULE : 1 << (f & 3);
        }

        static boolean isDevice(int address) {
            return unsigned(address) >= DEVICE;
        }

        static int load(World world, Task task, int word) {
            Cap a = task.reg(aField(word));
            Cap d = task.reg(dField(word));
            int f = f(word);
            int address = a.cursor + immediate(word);
            int fault = a.faultFor(READ, address, sizeOf(f));
            if (fault != NO_FAULT) {
                return fault;
            }
            if (isDevice(address)) {
                if (f != 2) {
                    return FAULT_ALIGN;
                }
                d.number(world.readDevice(task, address));
            } else if (f == 3) {
                world.store.loadCap(address, d, a.has(TAKE));
            } else {
                d.number(withSign(f, world.store.load(address, sizeOf(f))));
            }
            return NO_FAULT;
        }

        static int withSign(int f, int value) {
            switch (f) {
                case 0: return (byte) value;
                case 1: return (short) value;
                default: return value;
            }
        }

        static int write(World world, Task task, int word) {
            Cap a = task.reg(aField(word));
            Cap b = task.reg(bField(word));
            int f = f(word);
            int address = a.cursor + storeOffset(word);
            int fault = a.faultFor(WRITE, address, sizeOf(f));
            if (fault != NO_FAULT) {
                return fault;
            }
            if (isDevice(address)) {
                if (f != 2) {
                    return FAULT_ALIGN;
                }
                world.writeDevice(address, b.cursor);
            } else if (f == 3) {
                boolean given = a.has(GIVE) && (b.has(GLOBAL) || a.has(LOCAL));
                world.store.writeCap(address, b, b.tagged && given);
            } else {
                world.store.write(address, sizeOf(f), b.cursor);
            }
            return NO_FAULT;
        }

        static void capability(World world, Task task, int word) {
            Cap a = task.reg(aField(word));
            Cap made = world.scratch;
            made.copy(a);
            switch (f(word)) {
                case 0:
                    derive(made, task.reg(bField(word)), g(word));
                    break;
                case 1:
                    inspect(made, bField(word), task.interrupts);
                    break;
                case 2:
                    made.moveTo(a.cursor + immediate(word));
                    break;
                default:
                    made.narrow(word >>> 20);
            }
            task.reg(dField(word)).copy(made);
        }

        static void derive(Cap made, Cap b, int g) {
            switch (g) {
                case 0:
                    made.moveTo(made.cursor + b.cursor);
                    break;
                case 1:
                    made.moveTo(b.cursor);
                    break;
                case 2:
                    made.narrow(unsigned(b.cursor));
                    break;
                case 3:
                    made.limit(b.cursor);
                    break;
                case 4:
                    made.seal(b);
                    break;
                case 5:
                    made.unseal(b);
                    break;
                case 6:
                    made.number(b.isWithin(made) ? 1 : 0);
                    break;
                default:
                    made.number(b.isLike(made) ? 1 : 0);
            }
        }

        static void inspect(Cap made, int selector, boolean interrupts) {
            switch (selector) {
                case 0:
                    made.number(made.perms);
                    break;
                case 1:
                    made.number(made.type);
                    break;
                case 2:
                    made.number(made.base);
                    break;
                case 3:
                    made.number(made.top - made.base);
                    break;
                case 4:
                    made.number(made.tagged ? 1 : 0);
                    break;
                case 5:
                    made.number(made.top);
                    break;
                case 6:
                    made.number(made.cursor);
                    break;
                case 7:
                    made.number(interrupts ? 1 : 0);
                    break;
                case 8:
                    break;
                case 9:
                    made.tagged = false;
                    break;
                default:
                    made.becomeEntry(selector - 9);
            }
        }

        static int jumpFault(Cap target, int offset) {
            if (!target.tagged) {
                return FAULT_TAG;
            }
            if (target.type == PLAIN) {
                return target.has(RUN) ? NO_FAULT : FAULT_PERMIT;
            }
            return offset == 0 && target.type <= SERVICE ? NO_FAULT : FAULT_SEALED;
        }

        static int jumpTo(World world, Task task, int word) {
            Cap target = world.scratch;
            target.copy(task.reg(aField(word)));
            int offset = immediate(word);
            int fault = jumpFault(target, offset);
            if (fault != NO_FAULT) {
                return fault;
            }
            link(task, task.reg(dField(word)));
            task.pcc.cursor += WORD;
            switch (target.type) {
                case EXPORT:
                    return call(world, task, target.cursor);
                case RETURN:
                    task.giveBack(world.store);
                    break;
                case SERVICE:
                    Services.serve(world, task, target.cursor);
                    break;
                default:
                    enter(task, target, offset);
            }
            return NO_FAULT;
        }

        static void enter(Task task, Cap target, int offset) {
            task.pcc.copy(target);
            task.pcc.type = PLAIN;
            task.pcc.cursor += offset;
            if (target.type == ENTRY_OFF) {
                task.interrupts = false;
            } else if (target.type == ENTRY_ON) {
                task.interrupts = true;
            }
        }

        static int call(World world, Task task, int export) {
            if (!task.stackIsAsGiven()) {
                return FAULT_STACK;
            }
            Compartment callee = world.compartmentAt(export >> 4);
            if (callee == null || !task.hasFrameLeft()) {
                task.reg(10).number(-1);
                task.reg(11).number(NO_FRAME_LEFT);
                return NO_FAULT;
            }
            int mark = task.reg(2).cursor;
            world.calls++;
            task.keepFrame();
            world.store.erase(task.stackBase, mark);
            task.enter(callee, export >> 4, export & 15, mark);
            return NO_FAULT;
        }
    }

    /** What the imports of kind 1 do; arguments and answers are in c10 and behind it. */
    private static final class Services {
        static final int ALLOC = 0;
        static final int FREE = 1;
        static final int YIELD = 2;
        static final int SLEEP = 3;
        static final int WAIT = 4;
        static final int WAKE = 5;
        static final int SWEEP = 6;
        static final int NUMBER = 7;
        static final int LAST = 8;
        static final int MOST_REST = 10000;

        static final int FAILED = -1;
        static final int DONE = 0;
        static final int OTHER_WORD = 1;
        static final int TIME_OVER = 2;

        static void serve(World world, Task task, int service) {
            Cap c10 = task.reg(10);
            world.services++;
            switch (service) {
                case ALLOC:
                    allocate(world, task);
                    break;
                case FREE:
                    c10.number(release(world, c10));
                    break;
                case YIELD:
                    world.current = NONE;
                    c10.number(DONE);
                    break;
                case SLEEP:
                    c10.number(sleep(world, task));
                    break;
                case WAIT:
                    c10.number(await(world, task));
                    break;
                case WAKE:
                    c10.number(wake(world, task));
                    break;
                case SWEEP:
                    world.heap.asked = true;
                    c10.number(DONE);
                    break;
                case NUMBER:
                    c10.number(task.number);
                    break;
                default:
                    c10.number(world.heap.freeBytes());
            }
            task.reg(11).clear();
            task.forgetOthers();
            task.filterBy(world.store);
        }

        static void allocate(World world, Task task) {
            Heap heap = world.heap;
            Cap c10 = task.reg(10);
            long bytes = unsigned(c10.cursor);
            if (bytes < 1 || bytes > heap.bytes()) {
                c10.clear();
                return;
            }
            int granules = (int) ((bytes + GRANULE - 1) / GRANULE);
            if (!world.grant(granules, c10) && heap.held > 0) {
                heap.asked |= heap.next < 0;
                task.wanted = granules;
                task.state = SLEEPS_FOR_SWEEP;
            }
        }

        static int release(World world, Cap cap) {
            if (!cap.isPlainWith(WRITE) || !world.heap.isObject(cap.base, cap.top)) {
                return FAILED;
            }
            int granule = cap.base / GRANULE;
            world.heap.hold(granule);
            world.heap.revoke(world.store, granule, (cap.top - cap.base) / GRANULE, true);
            return DONE;
        }

        static int sleep(World world, Task task) {
            int steps = task.reg(10).cursor;
            if (steps < 1 || steps > MOST_REST) {
                return FAILED;
            }
            task.restUntil(world.time + steps, SLEEPS);
            return DONE;
        }

        static boolean isWordFor(World world, Cap cap, int wanted) {
            return cap.faultFor(wanted, cap.cursor, WORD) == NO_FAULT
                && world.store.has(cap.cursor, WORD);
        }

        static int await(World world, Task task) {
            Cap word = task.reg(10);
            int steps = task.reg(12).cursor;
            if (!isWordFor(world, word, READ) || steps < 0 || steps > MOST_REST) {
                return FAILED;
            }
            if (world.store.load(word.cursor, WORD) != task.reg(11).cursor) {
                return OTHER_WORD;
            }
            task.waitAddress = word.cursor;
            task.waitSince = world.time;
            task.restUntil(world.time + steps, WAITS);
            return TIME_OVER;
        }

        static int wake(World world, Task task) {
            Cap word = task.reg(10);
            if (!isWordFor(world, word, WRITE)) {
                return FAILED;
            }
            long most = Math.min(unsigned(task.reg(11).cursor), MOST_THREADS);
            int woken = 0;
            for (int i = 0; i < most; i++) {
                Task next = nextToWake(world, word.cursor);
                if (next != null) {
                    next.becomeReady();
                    next.reg(10).number(DONE);
                    woken++;
                }
            }
            return woken;
        }

        static Task nextToWake(World world, int address) {
            Task next = null;
            for (int i = 0; i < world.taskCount; i++) {
                Task task = world.tasks[i];
                if (task.state == WAITS && task.waitAddress == address
                    && (next == null || task.isWokenBefore(next))) {
                    next = task;
                }
            }
            return next;
        }
    }
}
