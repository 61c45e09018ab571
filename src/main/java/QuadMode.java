/**
 * A machine whose operands tell themselves how they are found, with frames for calls, four modes
 * with a stack each, pages of three regions, and faults that undo an instruction.
 *
 * <p>A fault is no Java exception here: it is noted in the Core, and from then on the instruction
 * reads zeros and writes nothing. It may so run on to its end without harm, and is taken back there.
 */
public final class QuadMode {
    private static final int NONE = -1;
    private static final int MOST_INSTRUCTIONS = 200;

    private static final int HALTED = 1;
    private static final int DEAD = 2;

    private static final int REGISTERS = 16;
    private static final int ARGUMENTS = 12;
    private static final int FRAME = 13;
    private static final int STACK = 14;
    private static final int PC = 15;

    private static final int C = 1;
    private static final int V = 2;
    private static final int Z = 4;
    private static final int N = 8;
    private static final int CONDITIONS = 15;
    private static final int IV = 32;
    private static final int STATUS_BITS = 0x03C0002F;

    private static final int MODES = 4;
    private static final int INNERS = 57;
    private static final int B0 = 8;
    private static final int L0 = 9;
    private static final int B1 = 10;
    private static final int L1 = 11;
    private static final int BS = 12;
    private static final int LS = 13;
    private static final int VECTORS = 17;
    private static final int MAPPED = 56;

    private static final int INSTRUCTION = 1;
    private static final int OPERAND = 2;
    private static final int MODE = 3;
    private static final int ACCESS = 4;
    private static final int INVALID = 5;
    private static final int BREAK = 6;
    private static final int ARITHMETIC = 7;
    private static final int CHANGE = 8;

    private static final int LONG = 4;
    private static final int BYTE = 1;

    private final Storage storage;
    private final int[] inner;
    private final Pages pages;
    private final Core core;
    private final Operand[] operands;
    private final Specifiers specifiers;
    private final Codes codes;
    private int stopped;
    private int instructions;
    private int latest;
    private int exceptions;

    public QuadMode() {
        storage = new Storage();
        inner = new int[INNERS];
        pages = new Pages(storage, inner);
        core = new Core(storage, pages, inner);
        operands = new Operand[] {new Operand(), new Operand(), new Operand()};
        specifiers = new Specifiers(core);
        codes = new Codes(core, operands[0], operands[1], operands[2]);
    }

    public void fill(int address, long word) {
        for (int i = 0; i < 8; i++) {
            storage.putByte(address + i, (int) (word >>> 8 * i));
        }
    }

    public int look(int address) {
        return storage.longAt(address);
    }

    public void set(int r, int v) throws IndexOutOfBoundsException {
        if (r < 0 || r >= REGISTERS) {
            throw new IndexOutOfBoundsException("no such register");
        }
        core.put(r, v);
    }

    public int register(int r) throws IndexOutOfBoundsException {
        if (r < 0 || r >= REGISTERS) {
            throw new IndexOutOfBoundsException("no such register");
        }
        return core.get(r);
    }

    public void setInner(int k, int v) throws IndexOutOfBoundsException {
        if (!core.hasInner(k)) {
            throw new IndexOutOfBoundsException("no such inner register");
        }
        core.putInner(k, k == MAPPED && v != 0 ? 1 : v);
    }

    public int inner(int k) throws IndexOutOfBoundsException {
        if (!core.hasInner(k)) {
            throw new IndexOutOfBoundsException("no such inner register");
        }
        return core.getInner(k);
    }

    public void begin(int status) throws IllegalArgumentException {
        if ((status & ~STATUS_BITS) != 0) {
            throw new IllegalArgumentException("bits of the status that must be 0");
        }
        core.status = status;
        stopped = 0;
    }

    public int status() {
        return core.status;
    }

    public int run(int n) throws IllegalArgumentException, IllegalStateException {
        if (n < 1 || n > MOST_INSTRUCTIONS) {
            throw new IllegalArgumentException("not 1 to 200 instructions");
        }
        if (stopped != 0) {
            throw new IllegalStateException("halted or dead");
        }
        int count = 0;
        while (count < n && stopped == 0) {
            step();
            count++;
        }
        instructions += count;
        return count;
    }

    public int reach(int address, boolean write, int mode) throws IllegalArgumentException {
        if (mode < 0 || mode >= MODES) {
            throw new IllegalArgumentException("no such mode");
        }
        return pages.locate(address, write, mode);
    }

    public int state(int what) {
        switch (what) {
            case 0:
                return stopped;
            case 1:
                return instructions;
            case 2:
                return latest;
            case 3:
                return exceptions;
            default:
                return NONE;
        }
    }

    private void step() {
        core.keep();
        int code = core.fetch(BYTE);
        if (!codes.isAllowed(code)) {
            core.raise(INSTRUCTION);
        }
        String shape = codes.shapeOf(code);
        for (int i = 0; i < shape.length() && i < operands.length && core.fault == 0; i++) {
            specifiers.find(operands[i], shape.charAt(i));
        }
        if (core.fault == 0) {
            codes.execute(code);
        }
        settle(code);
    }

    private void settle(int code) {
        if (core.fault != 0) {
            core.takeBack();
            boolean ofPages = core.fault == ACCESS || core.fault == INVALID;
            except(core.fault, 0, ofPages ? 2 : 0, core.faultAddress, core.faultFlag);
        } else if (code == Codes.HALT) {
            stopped = HALTED;
        } else if (code >= Codes.FIRST_CHANGE && code <= Codes.LAST_CHANGE) {
            int to = code - Codes.FIRST_CHANGE;
            except(CHANGE + to, Math.min(to, core.mode()), 1, operands[0].value, 0);
        } else if (core.trap != 0) {
            except(ARITHMETIC, 0, 1, core.trap, 0);
        }
    }

    /** Takes an exception in a mode; so many longs (0 to 2) that tell more of it are pushed last. */
    private void except(int number, int mode, int more, int first, int second) {
        latest = number;
        exceptions++;
        core.fault = 0;
        int before = core.status;
        int modeBefore = core.mode();
        // The new status comes first, so that the pushes go to that mode's stack, by its rights.
        core.status = mode << 24 | modeBefore << 22;
        core.push(before);
        core.push(core.get(PC));
        if (more > 0) {
            core.push(first);
        }
        if (more > 1) {
            core.push(second);
        }
        if (core.fault != 0) {
            core.takeBack();
            stopped = DEAD;
            return;
        }
        core.put(PC, storage.longAt(inner[VECTORS] + 4 * number));
    }

    /** The bytes; every address is taken mod their number. */
    private static final class Storage {
        private static final int SIZE = 2048;
        private static final int LAST = SIZE - 1;

        private final byte[] cells = new byte[SIZE];

        int byteAt(int address) {
            return cells[address & LAST] & 255;
        }

        void putByte(int address, int value) {
            cells[address & LAST] = (byte) value;
        }

        int longAt(int address) {
            return (cells[address & LAST] & 255)
                    | (cells[(address + 1) & LAST] & 255) << 8
                    | (cells[(address + 2) & LAST] & 255) << 16
                    | cells[(address + 3) & LAST] << 24;
        }
    }

    /** Finds where the bytes of addresses are in storage. */
    private static final class Pages {
        private static final int PAGE = 64;
        private static final int FRAMES = 32;
        private static final int PAGE_NUMBERS = 1 << 24;
        private static final int SYSTEM = 2;
        private static final int MODIFIED = 1 << 2;
        private static final int NOT_THERE = 1;
        private static final int OF_ENTRY = 2;
        private static final int WRITING = 4;

        private final Storage storage;
        private final int[] inner;
        /** Where in storage the entry of the page located last is; NONE if it had none. */
        private int entry;

        Pages(Storage storage, int[] inner) {
            this.storage = storage;
            this.inner = inner;
        }

        /** The byte's place in storage, or -10 - 10 * the fault's number - its flag. */
        int locate(int address, boolean write, int mode) {
            entry = NONE;
            if (inner[MAPPED] == 0) {
                return address & Storage.LAST;
            }
            int wish = write ? WRITING : 0;
            int region = address >>> 30;
            int page = pageOf(address);
            if (!isThere(region, page)) {
                return refusal(ACCESS, NOT_THERE + wish);
            }
            int at = inner[BS] + 4 * page;
            if (region != SYSTEM) {
                int own = inner[region == 0 ? B0 : B1] + 4 * page;
                if (own >>> 30 != SYSTEM || !isThere(SYSTEM, pageOf(own))) {
                    return refusal(ACCESS, NOT_THERE + OF_ENTRY + wish);
                }
                int outer = storage.longAt(inner[BS] + 4 * pageOf(own));
                if (!isValid(outer)) {
                    return refusal(INVALID, OF_ENTRY + wish);
                }
                at = inFrame(outer, own);
            }
            int found = storage.longAt(at);
            if (!grants(found, write, mode)) {
                return refusal(ACCESS, wish);
            }
            if (!isValid(found)) {
                return refusal(INVALID, wish);
            }
            entry = at & Storage.LAST;
            return inFrame(found, address);
        }

        /** Sets MODIFIED in the entry at a place; the bit lies in the entry's highest byte. */
        void markModified(int place) {
            storage.putByte(place + 3, storage.byteAt(place + 3) | MODIFIED);
        }

        private boolean isThere(int region, int page) {
            if (region > SYSTEM) {
                return false;
            }
            int limit = inner[region == SYSTEM ? LS : region == 1 ? L1 : L0];
            // A limit has no sign: one below 0 stands above every page.
            boolean isBelow = limit < 0 || page < limit;
            return isBelow == (region != 1);
        }

        private static boolean grants(int found, boolean write, int mode) {
            int reader = found >>> 27 & 3;
            int writer = found >>> 29 & 3;
            return write ? mode <= writer && writer <= reader : mode <= reader;
        }

        private static boolean isValid(int found) {
            return found < 0;
        }

        private static int inFrame(int found, int address) {
            return PAGE * (found & (FRAMES - 1)) + (address & (PAGE - 1));
        }

        private static int pageOf(int address) {
            return address >>> 6 & (PAGE_NUMBERS - 1);
        }

        private static int refusal(int fault, int flag) {
            return -10 - 10 * fault - flag;
        }

        static int faultOf(int refusal) {
            return (-10 - refusal) / 10;
        }

        static int flagOf(int refusal) {
            return (-10 - refusal) % 10;
        }
    }

    /** Registers, status, the fault that is noted, and storage as an instruction reaches it. */
    private static final class Core {
        private final Storage storage;
        private final Pages pages;
        private final int[] inner;
        private final int[] registers = new int[REGISTERS];
        private final int[] keptRegisters = new int[REGISTERS];
        private final int[] keptStacks = new int[MODES];
        private final int[] places = new int[LONG];
        private final int[] entries = new int[LONG];
        private int keptStatus;
        private int status;
        private int fault;
        private int faultAddress;
        private int faultFlag;
        private int trap;

        Core(Storage storage, Pages pages, int[] inner) {
            this.storage = storage;
            this.pages = pages;
            this.inner = inner;
        }

        int mode() {
            return status >>> 24 & 3;
        }

        int previous() {
            return status >>> 22 & 3;
        }

        int get(int r) {
            return r == STACK ? inner[mode()] : registers[r & (REGISTERS - 1)];
        }

        void put(int r, int v) {
            if (r == STACK) {
                inner[mode()] = v;
            } else {
                registers[r & (REGISTERS - 1)] = v;
            }
        }

        boolean hasInner(int k) {
            return k >= 0 && k < MODES || k >= B0 && k <= LS || k == VECTORS || k == MAPPED;
        }

        int getInner(int k) {
            return hasInner(k) ? inner[k] : 0;
        }

        void putInner(int k, int v) {
            if (hasInner(k)) {
                inner[k] = v;
            }
        }

        boolean has(int bits) {
            return (status & bits) != 0;
        }

        /** Sets the conditions by a result; a byte comes with its sign. */
        void conclude(int result, boolean v, boolean c) {
            setConditions(result < 0, result == 0, v, c);
        }

        void setConditions(boolean n, boolean z, boolean v, boolean c) {
            int conditions = (n ? N : 0) | (z ? Z : 0) | (v ? V : 0) | (c ? C : 0);
            status = status & ~CONDITIONS | conditions;
        }

        void keep() {
            fault = 0;
            trap = 0;
            keptStatus = status;
            System.arraycopy(registers, 0, keptRegisters, 0, REGISTERS);
            System.arraycopy(inner, 0, keptStacks, 0, MODES);
        }

        void takeBack() {
            status = keptStatus;
            System.arraycopy(keptRegisters, 0, registers, 0, REGISTERS);
            System.arraycopy(keptStacks, 0, inner, 0, MODES);
        }

        /** Notes a fault; one that is noted already stays, for what comes behind it counts no more. */
        void raise(int number) {
            if (fault == 0) {
                fault = number;
            }
        }

        /** Notes the fault that Pages.locate answered for an address. */
        void refuse(int refusal, int address) {
            if (fault == 0) {
                fault = Pages.faultOf(refusal);
                faultFlag = Pages.flagOf(refusal);
                faultAddress = address;
            }
        }

        /** Whether a mode has the right to a byte, be its page VALID or not. */
        boolean admits(int address, boolean write, int mode) {
            int place = pages.locate(address, write, mode);
            if (place >= 0) {
                return true;
            }
            if (Pages.faultOf(place) == ACCESS) {
                return false;
            }
            if ((Pages.flagOf(place) & Pages.OF_ENTRY) != 0) {
                refuse(place, address);
            }
            return true;
        }

        int read(int address, int size) {
            int value = 0;
            for (int i = 0; i < size && fault == 0; i++) {
                int place = pages.locate(address + i, false, mode());
                if (place < 0) {
                    refuse(place, address + i);
                } else {
                    value |= storage.byteAt(place) << 8 * i;
                }
            }
            return value;
        }

        void write(int address, int value, int size) {
            for (int i = 0; i < size && i < LONG && fault == 0; i++) {
                places[i] = pages.locate(address + i, true, mode());
                entries[i] = pages.entry;
                if (places[i] < 0) {
                    refuse(places[i], address + i);
                }
            }
            for (int i = 0; i < size && i < LONG && fault == 0; i++) {
                if (entries[i] >= 0) {
                    pages.markModified(entries[i]);
                }
                storage.putByte(places[i], value >>> 8 * i);
            }
        }

        int fetch(int size) {
            int value = read(get(PC), size);
            put(PC, get(PC) + size);
            return value;
        }

        void push(int value) {
            write(get(STACK) - LONG, value, LONG);
            put(STACK, get(STACK) - LONG);
        }

        int pop() {
            int value = read(get(STACK), LONG);
            put(STACK, get(STACK) + LONG);
            return value;
        }
    }

    /** An operand as its specifier found it. */
    private static final class Operand {
        private int size;
        /** The register that it is, or NONE if it is in memory. */
        private int register;
        private int address;
        private int value;
    }

    /** Finds operands by their specifiers. */
    private static final class Specifiers {
        private static final char DISTANCE = 'd';
        private static final int INDEXED = 4;
        private static final int IN_REGISTER = 5;
        private static final int BY_REGISTER = 6;
        private static final int FALLING = 7;
        private static final int GROWING = 8;
        private static final int GROWING_DEFERRED = 9;
        private static final int NEAR = 10;
        private static final int NEAR_DEFERRED = 11;
        private static final int FAR = 14;

        private final Core core;

        Specifiers(Core core) {
            this.core = core;
        }

        /** Shapes are r, w, m, a for a byte, R, W, M, A for a long, d for a distance. */
        void find(Operand operand, char shape) {
            operand.register = NONE;
            operand.size = shape < 'a' ? LONG : BYTE;
            if (shape == DISTANCE) {
                operand.value = (byte) core.fetch(BYTE);
                return;
            }
            int specifier = core.fetch(BYTE);
            int way = specifier >>> 4;
            int n = specifier & 15;
            if (!suits(way, n, shape)) {
                core.raise(MODE);
            } else if (way < INDEXED) {
                operand.value = specifier;
            } else if (way == IN_REGISTER) {
                operand.register = n;
                operand.value = operand.size == BYTE ? core.get(n) & 255 : core.get(n);
            } else {
                int base = way == INDEXED ? core.fetch(BYTE) : specifier;
                if (way == INDEXED && !suitsBehindIndexed(base >>> 4, base & 15)) {
                    core.raise(MODE);
                    return;
                }
                operand.address = addressBy(base >>> 4, base & 15, operand.size);
                if (way == INDEXED) {
                    operand.address += operand.size * core.get(n);
                }
                operand.value = isRead(shape) ? core.read(operand.address, operand.size) : 0;
            }
        }

        private static boolean suits(int way, int n, char shape) {
            if (way < INDEXED) {
                return shape == 'r' || shape == 'R';
            }
            if (isNoWay(way) || way <= FALLING && n == PC) {
                return false;
            }
            if (way == IN_REGISTER) {
                return !isAddress(shape);
            }
            return way != GROWING || n != PC || shape == 'r' || shape == 'R' || isAddress(shape);
        }

        private static boolean suitsBehindIndexed(int way, int n) {
            return way >= BY_REGISTER && !isNoWay(way) && (way > GROWING || n != PC);
        }

        private static boolean isNoWay(int way) {
            return way > NEAR_DEFERRED && way < FAR;
        }

        private static boolean isAddress(char shape) {
            return shape == 'a' || shape == 'A';
        }

        private static boolean isRead(char shape) {
            return shape == 'r' || shape == 'R' || shape == 'm' || shape == 'M';
        }

        /** The PC grows as other registers do, so what stands behind needs no way of its own. */
        private int addressBy(int way, int n, int size) {
            int before = core.get(n);
            switch (way) {
                case BY_REGISTER:
                    return before;
                case FALLING:
                    core.put(n, before - size);
                    return before - size;
                case GROWING:
                    core.put(n, before + size);
                    return before;
                case GROWING_DEFERRED:
                    core.put(n, before + LONG);
                    return core.read(before, LONG);
                default:
                    int distance = way < FAR ? (byte) core.fetch(BYTE) : core.fetch(LONG);
                    // Asked for again: a PC has moved on over the distance.
                    int address = core.get(n) + distance;
                    return way == NEAR || way == FAR ? address : core.read(address, LONG);
            }
        }
    }

    /** What the codes do, once their operands are found. */
    private static final class Codes {
        private static final int HALT = 0;
        private static final int FIRST_CHANGE = 6;
        private static final int LAST_CHANGE = 9;
        private static final int PUT_INNER = 10;
        private static final int GET_INNER = 11;
        private static final int NARROW = 17;
        private static final int NEGATE = 18;
        private static final int CLEAR = 20;
        private static final int SHIFT = 41;
        private static final int LAST = 70;
        private static final int OVERFLOWED = 1;
        private static final int DIVIDED_BY_0 = 2;
        private static final int SAVED_REGISTERS = 12;
        private static final int MASK_MUST_BE_0 = 0xB000;
        private static final int MASK_IV = 1 << 14;
        private static final int FRAME_MUST_BE_0 = 0xFFD0;
        private static final int WITH_ARGUMENTS = 1 << 29;
        private static final long UNSIGNED = 0xFFFFFFFFL;

        private final Core core;
        private final Operand first;
        private final Operand second;
        private final Operand third;

        Codes(Core core, Operand first, Operand second, Operand third) {
            this.core = core;
            this.first = first;
            this.second = second;
            this.third = third;
        }

        boolean isAllowed(int code) {
            boolean ofKernel = code == HALT || code == PUT_INNER || code == GET_INNER;
            return code <= LAST && (!ofKernel || core.mode() == 0);
        }

        /** A code's operands, a letter each, as Specifiers.find takes them. */
        String shapeOf(int code) {
            switch (code) {
                case 6: case 7: case 8: case 9: case 21: case 44:
                    return "R";
                case 10: case 23:
                    return "RR";
                case 11: case 14: case 18: case 19:
                    return "RW";
                case 12: case 20:
                    return "W";
                case 13:
                    return "rw";
                case 15: case 16:
                    return "rW";
                case 17:
                    return "Rw";
                case 22:
                    return "r";
                case 24:
                    return "rr";
                case 25: case 26:
                    return "M";
                case 27: case 28: case 29: case 30: case 31: case 32: case 33:
                    return "RM";
                case 34: case 35: case 36: case 37: case 38: case 39: case 40:
                    return "RRW";
                case 41:
                    return "rRW";
                case 42:
                    return "AW";
                case 43:
                    return "aW";
                case 45:
                    return "A";
                case 46: case 47:
                    return "a";
                case 62: case 63:
                    return "Rd";
                case 64: case 65:
                    return "Md";
                case 66: case 67:
                    return "RMd";
                case 68:
                    return "Ra";
                case 69: case 70:
                    return "rRa";
                default:
                    return code >= 48 && code <= 61 ? "d" : "";
            }
        }

        /** HALT and the CHANGEs are left to the machine, as is NOP, which has nothing to do. */
        void execute(int code) {
            switch (code) {
                case 2:
                    leaveException();
                    break;
                case 3:
                    core.raise(BREAK);
                    break;
                case 4:
                    leaveFrame();
                    break;
                case 5:
                    core.put(PC, core.pop());
                    break;
                case PUT_INNER:
                    giveInner(second.value, first.value);
                    break;
                case GET_INNER:
                    takeInner(first.value);
                    break;
                case 12:
                    store(first, core.status);
                    break;
                case SHIFT:
                    shift((byte) first.value, second.value);
                    break;
                case 68:
                    enterFrame();
                    break;
                case 69: case 70:
                    probe(code == LAST);
                    break;
                default:
                    if (code >= 13 && code <= CLEAR) {
                        move(code);
                    } else if (code > CLEAR && code <= 24) {
                        compare(code);
                    } else if (code > 24 && code < SHIFT) {
                        calculate(code);
                    } else if (code > SHIFT && code <= 45) {
                        handAddress(code);
                    } else if (code > 45 && code <= 49) {
                        go(code);
                    } else if (code > 49 && code <= 63) {
                        branch(code);
                    } else if (code > 63) {
                        count(code);
                    }
            }
            noteOverflow(code);
        }

        private void noteOverflow(int code) {
            boolean mayTrap = code >= NARROW && code <= SHIFT || code >= 64 && code <= 67;
            if (mayTrap && core.trap == 0 && core.has(IV) && core.has(V)) {
                core.trap = OVERFLOWED;
            }
        }

        private void store(Operand to, int value) {
            if (to.register == NONE) {
                core.write(to.address, value, to.size);
            } else if (to.size == BYTE) {
                core.put(to.register, core.get(to.register) & ~255 | value & 255);
            } else {
                core.put(to.register, value);
            }
        }

        private void leaveException() {
            int pc = core.pop();
            int status = core.pop();
            int mode = status >>> 24 & 3;
            int previous = status >>> 22 & 3;
            if ((status & ~STATUS_BITS) != 0 || mode < core.mode() || previous < mode) {
                core.raise(OPERAND);
                return;
            }
            core.put(PC, pc);
            core.status = status;
        }

        private void giveInner(int k, int v) {
            if (!core.hasInner(k) || k == MAPPED && v != 0 && v != 1) {
                core.raise(OPERAND);
                return;
            }
            core.putInner(k, v);
        }

        private void takeInner(int k) {
            if (!core.hasInner(k)) {
                core.raise(OPERAND);
                return;
            }
            int result = core.getInner(k);
            core.conclude(result, false, false);
            store(second, result);
        }

        private void move(int code) {
            int value = first.value;
            int result = moved(code, value);
            boolean v = code == NARROW && result != value || code == NEGATE && value == Integer.MIN_VALUE;
            boolean c = core.has(C);
            if (code == NARROW) {
                c = false;
            } else if (code == NEGATE) {
                c = result != 0;
            }
            core.conclude(result, v, c);
            store(code == CLEAR ? first : second, result);
        }

        private static int moved(int code, int value) {
            switch (code) {
                case 13: case 16: case NARROW:
                    return (byte) value;
                case NEGATE:
                    return -value;
                case 19:
                    return ~value;
                case CLEAR:
                    return 0;
                default:
                    return value;
            }
        }

        private void compare(int code) {
            boolean ofBytes = code == 22 || code == 24;
            int a = ofBytes ? (byte) first.value : first.value;
            if (code < 23) {
                core.conclude(a, false, false);
                return;
            }
            int b = ofBytes ? (byte) second.value : second.value;
            // Bytes with their signs keep their unsigned order when they are widened to ints.
            core.setConditions(a < b, a == b, false, Integer.compareUnsigned(a, b) < 0);
        }

        private void calculate(int code) {
            if (code < 27) {
                int result = code == 25 ? add(first.value, 1) : subtract(first.value, 1);
                store(first, result);
            } else if (code < 34) {
                store(second, calculated(code, first.value, second.value));
            } else {
                store(third, calculated(code - 7, first.value, second.value));
            }
        }

        /** The result of a code of 27 to 33, with a its first operand and b its second. */
        private int calculated(int code, int a, int b) {
            switch (code) {
                case 27:
                    return add(b, a);
                case 28:
                    return subtract(b, a);
                case 29:
                    return multiply(b, a);
                case 30:
                    return divide(b, a);
                case 31:
                    return bits(b | a);
                case 32:
                    return bits(b & ~a);
                default:
                    return bits(b ^ a);
            }
        }

        private int add(int b, int a) {
            long exact = (long) b + a;
            core.conclude((int) exact, exact != (int) exact, (b & UNSIGNED) + (a & UNSIGNED) > UNSIGNED);
            return (int) exact;
        }

        private int subtract(int b, int a) {
            long exact = (long) b - a;
            core.conclude((int) exact, exact != (int) exact, Integer.compareUnsigned(b, a) < 0);
            return (int) exact;
        }

        private int multiply(int b, int a) {
            long exact = (long) b * a;
            core.conclude((int) exact, exact != (int) exact, false);
            return (int) exact;
        }

        private int divide(int b, int a) {
            if (a == 0) {
                core.trap = DIVIDED_BY_0;
            }
            boolean v = a == 0 || b == Integer.MIN_VALUE && a == -1;
            int result = v ? b : b / a;
            core.conclude(result, v, false);
            return result;
        }

        private int bits(int result) {
            core.conclude(result, false, core.has(C));
            return result;
        }

        private void shift(int by, int value) {
            int result = 0;
            boolean v = false;
            if (by < 0) {
                result = value >> Math.min(-by, 31);
            } else if (by > 31) {
                v = value != 0;
            } else {
                result = value << by;
                v = (long) value << by != result;
            }
            core.conclude(result, v, false);
            store(third, result);
        }

        private void handAddress(int code) {
            int result = code == 44 ? first.value : first.address;
            core.conclude(result, false, core.has(C));
            if (code < 44) {
                store(second, result);
            } else {
                core.push(result);
            }
        }

        private void go(int code) {
            int pc = core.get(PC);
            if (code == 47 || code == 49) {
                core.push(pc);
            }
            core.put(PC, code < 48 ? first.address : pc + first.value);
        }

        private void branch(int code) {
            boolean byBit = code > 61;
            boolean taken = byBit ? (first.value & 1) == (code == 62 ? 1 : 0) : holds(code);
            if (taken) {
                core.put(PC, core.get(PC) + (byBit ? second.value : first.value));
            }
        }

        /** The conditions come in pairs, the codes' lowest bit telling which of a pair. */
        private boolean holds(int code) {
            switch (code) {
                case 50: case 51:
                    return core.has(Z) == (code == 51);
                case 52: case 53:
                    return core.has(N | Z) == (code == 53);
                case 54: case 55:
                    return core.has(N) == (code == 55);
                case 56: case 57:
                    return core.has(C | Z) == (code == 57);
                case 58: case 59:
                    return core.has(V) == (code == 59);
                default:
                    return core.has(C) == (code == 61);
            }
        }

        private void count(int code) {
            boolean falls = code < 66;
            Operand counter = falls ? first : second;
            long exact = falls ? (long) counter.value - 1 : (long) counter.value + 1;
            int result = (int) exact;
            core.conclude(result, exact != result, core.has(C));
            store(counter, result);
            boolean taken = falls ? result > 0 : result < first.value;
            boolean even = (code & 1) == 1 && result == (falls ? 0 : first.value);
            if (taken || even) {
                core.put(PC, core.get(PC) + (falls ? second.value : third.value));
            }
        }

        private void enterFrame() {
            core.push(first.value);
            int arguments = core.get(STACK);
            int mask = core.read(second.address, 2);
            if ((mask & MASK_MUST_BE_0) != 0) {
                core.raise(OPERAND);
                return;
            }
            int slack = arguments & 3;
            core.put(STACK, arguments - slack);
            for (int r = SAVED_REGISTERS - 1; r >= 0; r--) {
                if ((mask >>> r & 1) != 0) {
                    core.push(core.get(r));
                }
            }
            core.push(core.get(PC));
            core.push(core.get(FRAME));
            core.push(core.get(ARGUMENTS));
            core.push(slack << 30 | WITH_ARGUMENTS | (mask & 0xFFF) << 16 | core.status & 0xFFFF);
            core.push(0);
            core.put(FRAME, core.get(STACK));
            core.put(ARGUMENTS, arguments);
            core.status = core.status & ~(CONDITIONS | IV) | ((mask & MASK_IV) != 0 ? IV : 0);
            core.put(PC, second.address + 2);
        }

        private void leaveFrame() {
            core.put(STACK, core.get(FRAME) + LONG);
            int saved = core.pop();
            if ((saved & FRAME_MUST_BE_0) != 0) {
                core.raise(OPERAND);
                return;
            }
            core.put(ARGUMENTS, core.pop());
            core.put(FRAME, core.pop());
            core.put(PC, core.pop());
            for (int r = 0; r < SAVED_REGISTERS; r++) {
                if ((saved >>> 16 + r & 1) != 0) {
                    core.put(r, core.pop());
                }
            }
            core.put(STACK, core.get(STACK) + (saved >>> 30));
            if ((saved & WITH_ARGUMENTS) != 0) {
                int longs = core.pop() & 255;
                core.put(STACK, core.get(STACK) + LONG * longs);
            }
            core.status = core.status & ~(CONDITIONS | IV) | saved & (CONDITIONS | IV);
        }

        private void probe(boolean write) {
            int mode = Math.max(core.previous(), first.value & 3);
            int address = third.address;
            boolean may = core.admits(address, write, mode)
                    && core.admits(address + second.value - 1, write, mode);
            core.setConditions(false, may, false, false);
        }
    }
}
