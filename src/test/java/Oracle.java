import java.math.BigInteger;
import java.util.Arrays;

/**
 * The document once more, in other words: faults are exceptions, operands are objects made anew,
 * sums are BigIntegers. The class is run beside it on many programs.
 */
final class Oracle {
    private static final class Fault extends RuntimeException {
        private static final long serialVersionUID = 1L;
        final int number;
        final int address;
        final int flag;

        Fault(int number, int address, int flag) {
            super(null, null, false, false);
            this.number = number;
            this.address = address;
            this.flag = flag;
        }
    }

    private static final class Found {
        int place;
        int entry = -1;
        boolean valid = true;
    }

    private static final class Op {
        boolean isRegister;
        int n;
        int address;
        int value;
        int size;
    }

    private static final String[] SHAPES = {
        "", "", "", "", "", "", "rL", "rL", "rL", "rL", "rL rL", "rL wL", "wL", "rB wB", "rL wL", "rB wL",
        "rB wL", "rL wB", "rL wL", "rL wL", "wL", "rL", "rB", "rL rL", "rB rB", "mL", "mL", "rL mL", "rL mL",
        "rL mL", "rL mL", "rL mL", "rL mL", "rL mL", "rL rL wL", "rL rL wL", "rL rL wL", "rL rL wL", "rL rL wL",
        "rL rL wL", "rL rL wL", "rB rL wL", "aL wL", "aB wL", "rL", "aL", "aB", "aB", "d", "d", "d", "d", "d",
        "d", "d", "d", "d", "d", "d", "d", "d", "d", "rL d", "rL d", "mL d", "mL d", "rL mL d", "rL mL d",
        "rL aB", "rB rL aB", "rB rL aB"
    };

    final int[] bytes = new int[2048];
    final int[] regs = new int[16]; // 14 is unused
    final int[] stacks = new int[4];
    int b0, l0, b1, l1, bs, ls, vectors, mapped;
    int status;
    int stopped, done, latest, exceptions;

    private int trap;
    private boolean changes;
    private Op writing;
    private int written;

    void fill(int address, long word) {
        for (int i = 0; i < 8; i++) {
            bytes[Math.floorMod(address + i, 2048)] = (int) (word >> (8 * i)) & 0xFF;
        }
    }

    int look(int address) {
        int v = 0;
        for (int i = 3; i >= 0; i--) {
            v = v * 256 + bytes[Math.floorMod(address + i, 2048)];
        }
        return v;
    }

    int mode() {
        return (status >> 24) & 3;
    }

    int reg(int r) {
        return r == 14 ? stacks[mode()] : regs[r];
    }

    void setReg(int r, int v) {
        if (r == 14) {
            stacks[mode()] = v;
        } else {
            regs[r] = v;
        }
    }

    static boolean isInner(int k) {
        return Arrays.asList(0, 1, 2, 3, 8, 9, 10, 11, 12, 13, 17, 56).contains(k);
    }

    int getInner(int k) {
        switch (k) {
            case 8: return b0;
            case 9: return l0;
            case 10: return b1;
            case 11: return l1;
            case 12: return bs;
            case 13: return ls;
            case 17: return vectors;
            case 56: return mapped;
            default: return stacks[k];
        }
    }

    void putInner(int k, int v) {
        switch (k) {
            case 8: b0 = v; break;
            case 9: l0 = v; break;
            case 10: b1 = v; break;
            case 11: l1 = v; break;
            case 12: bs = v; break;
            case 13: ls = v; break;
            case 17: vectors = v; break;
            case 56: mapped = v == 0 ? 0 : 1; break;
            default: stacks[k] = v;
        }
    }

    static long un(int v) {
        return Integer.toUnsignedLong(v);
    }

    /** With validToo false, a page that isn't VALID is found all the same. */
    private Found find(int address, boolean write, int mode, boolean validToo) {
        Found f = new Found();
        if (mapped == 0) {
            f.place = Math.floorMod(address, 2048);
            return f;
        }
        int w = write ? 4 : 0;
        long a = un(address);
        int region = (int) (a / (1L << 30));
        long p = a / 64 % (1L << 24);
        int where;
        if (region == 3) {
            throw new Fault(4, address, 1 + w);
        } else if (region == 2) {
            if (p >= un(ls)) {
                throw new Fault(4, address, 1 + w);
            }
            where = (int) (bs + 4 * p);
        } else {
            if (region == 0 ? p >= un(l0) : p < un(l1)) {
                throw new Fault(4, address, 1 + w);
            }
            long e = un((int) ((region == 0 ? b0 : b1) + 4 * p));
            long ep = e / 64 % (1L << 24);
            if (e / (1L << 30) != 2 || ep >= un(ls)) {
                throw new Fault(4, address, 3 + w);
            }
            int outer = look((int) (bs + 4 * ep));
            if ((outer & 0x80000000) == 0) {
                throw new Fault(5, address, 2 + w);
            }
            where = 64 * (outer % 32 + 32 & 31) + (int) (e % 64);
        }
        int entry = look(where);
        int reads = (entry >> 27) & 3;
        int writes = (entry >> 29) & 3;
        boolean may = write ? writes <= reads && mode <= writes : mode <= reads;
        if (!may) {
            throw new Fault(4, address, w);
        }
        f.valid = (entry & 0x80000000) != 0;
        if (!f.valid && validToo) {
            throw new Fault(5, address, w);
        }
        f.entry = where;
        f.place = 64 * (entry & 31) + (int) (a % 64);
        return f;
    }

    int reach(int address, boolean write, int mode) {
        try {
            return find(address, write, mode, true).place;
        } catch (Fault f) {
            return -10 - 10 * f.number - f.flag;
        }
    }

    private int readByte(int address) {
        return bytes[find(address, false, mode(), true).place];
    }

    private int readLong(int address) {
        int b = readByte(address);
        b += readByte(address + 1) * 256;
        b += readByte(address + 2) * 65536;
        return b + readByte(address + 3) * 16777216;
    }

    private void write(int address, int v, int size) {
        Found[] f = new Found[size];
        for (int i = 0; i < size; i++) {
            f[i] = find(address + i, true, mode(), true);
        }
        for (int i = 0; i < size; i++) {
            if (f[i].entry != -1 || mapped == 1) {
                bytes[Math.floorMod(f[i].entry + 3, 2048)] |= 4;
            }
            bytes[f[i].place] = (v >> (8 * i)) & 255;
        }
    }

    private void push(int v) {
        write(reg(14) - 4, v, 4);
        setReg(14, reg(14) - 4);
    }

    private int pop() {
        int v = readLong(reg(14));
        setReg(14, reg(14) + 4);
        return v;
    }

    private int nextByte() {
        int b = readByte(regs[15]);
        regs[15]++;
        return b;
    }

    private int nextLong() {
        int v = 0;
        for (int i = 0; i < 4; i++) {
            v |= nextByte() << (8 * i);
        }
        return v;
    }

    private Fault modeFault() {
        return new Fault(3, 0, 0);
    }

    private Op operand(String kind) {
        Op o = new Op();
        if (kind.equals("d")) {
            o.value = (byte) nextByte();
            return o;
        }
        char access = kind.charAt(0);
        o.size = kind.charAt(1) == 'B' ? 1 : 4;
        int s = nextByte();
        int m = s / 16;
        int n = s % 16;
        if (m <= 3) {
            if (access != 'r') {
                throw modeFault();
            }
            o.value = s;
            return o;
        }
        if (m == 5) {
            if (access == 'a' || n == 15) {
                throw modeFault();
            }
            o.isRegister = true;
            o.n = n;
            o.value = o.size == 1 ? reg(n) & 255 : reg(n);
            return o;
        }
        if (m == 8 && n == 15) {
            if (access == 'w' || access == 'm') {
                throw modeFault();
            }
            if (access == 'r') {
                o.value = o.size == 1 ? nextByte() : nextLong();
            } else {
                o.address = regs[15];
                regs[15] += o.size;
            }
            return o;
        }
        if (m == 4) {
            if (n == 15) {
                throw modeFault();
            }
            int s2 = nextByte();
            if (s2 / 16 <= 5 || s2 == 0x8F) {
                throw modeFault();
            }
            int base = address(s2 / 16, s2 % 16, o.size);
            o.address = base + o.size * reg(n);
        } else {
            o.address = address(m, n, o.size);
        }
        if (access == 'r' || access == 'm') {
            o.value = o.size == 1 ? readByte(o.address) : readLong(o.address);
        }
        return o;
    }

    private int address(int m, int n, int size) {
        int d;
        switch (m) {
            case 6:
                if (n == 15) {
                    throw modeFault();
                }
                return reg(n);
            case 7:
                if (n == 15) {
                    throw modeFault();
                }
                setReg(n, reg(n) - size);
                return reg(n);
            case 8:
                setReg(n, reg(n) + size);
                return reg(n) - size;
            case 9:
                if (n == 15) {
                    return nextLong();
                }
                d = readLong(reg(n));
                setReg(n, reg(n) + 4);
                return d;
            case 10:
                d = (byte) nextByte();
                return reg(n) + d;
            case 11:
                d = (byte) nextByte();
                return readLong(reg(n) + d);
            case 14:
                d = nextLong();
                return reg(n) + d;
            case 15:
                d = nextLong();
                return readLong(reg(n) + d);
            default:
                throw modeFault();
        }
    }

    int run(int n) {
        int count = 0;
        while (count < n && stopped == 0) {
            step();
            count++;
            done++;
        }
        return count;
    }

    /** The kinds of a code's operands, such as rL, or d; the code is one of 0 to 70. */
    static String[] kindsOf(int code) {
        return SHAPES[code].isEmpty() ? new String[0] : SHAPES[code].split(" ");
    }

    private void step() {
        int[] r = regs.clone();
        int[] st = stacks.clone();
        int before = status;
        trap = 0;
        changes = false;
        writing = null;
        int number = 0;
        int to = 0;
        int[] more = {};
        try {
            int code = nextByte();
            if (code > 70 || (mode() != 0 && (code == 0 || code == 10 || code == 11))) {
                throw new Fault(1, 0, 0);
            }
            String[] kinds = kindsOf(code);
            Op[] o = new Op[3];
            for (int i = 0; i < kinds.length; i++) {
                o[i] = operand(kinds[i]);
            }
            obey(code, o[0], o[1], o[2]);
            if (writing != null) {
                finish();
            }
            if (changes) {
                number = code + 2;
                to = Math.min(code - 6, mode());
                more = new int[] {o[0].value};
            } else if (trap == 2) {
                number = 7;
                more = new int[] {2};
            } else if ((status & 34) == 34 && (code >= 17 && code <= 41 || code >= 64 && code <= 67)) {
                number = 7;
                more = new int[] {1};
            }
        } catch (Fault f) {
            back(r, st, before);
            number = f.number;
            if (number == 4 || number == 5) {
                more = new int[] {f.address, f.flag};
            }
        }
        if (number != 0) {
            latest = number;
            exceptions++;
            try {
                exception(number, to, more);
            } catch (Fault f) {
                back(r, st, before);
                stopped = 2;
            }
        }
    }

    private void back(int[] r, int[] st, int before) {
        System.arraycopy(r, 0, regs, 0, 16);
        System.arraycopy(st, 0, stacks, 0, 4);
        status = before;
    }

    private void exception(int number, int to, int[] more) {
        int old = status;
        int oldMode = mode();
        status = to * (1 << 24) + oldMode * (1 << 22);
        push(old);
        push(regs[15]);
        for (int v : more) {
            push(v);
        }
        regs[15] = look(vectors + 4 * number);
    }

    private void finish() {
        if (!writing.isRegister) {
            write(writing.address, written, writing.size);
        } else if (writing.size == 1) {
            setReg(writing.n, (reg(writing.n) & 0xFFFFFF00) + (written & 0xFF));
        } else {
            setReg(writing.n, written);
        }
    }

    private void put(Op o, int v) {
        writing = o;
        written = v;
    }

    private boolean c() {
        return (status & 1) == 1;
    }

    private void nzvc(boolean n, boolean z, boolean v, boolean c) {
        status = (status & ~15) + (n ? 8 : 0) + (z ? 4 : 0) + (v ? 2 : 0) + (c ? 1 : 0);
    }

    private void nz(int v, boolean over, boolean carry) {
        nzvc(v < 0, v == 0, over, carry);
    }

    private static BigInteger big(long v) {
        return BigInteger.valueOf(v);
    }

    private static boolean wraps(BigInteger v) {
        return !v.equals(big(v.intValue()));
    }

    private int reckon(int code, int a, int b) {
        BigInteger x;
        switch (code) {
            case 27:
                x = big(b).add(big(a));
                nz(x.intValue(), wraps(x), un(a) + un(b) >= 1L << 32);
                return x.intValue();
            case 28:
                x = big(b).subtract(big(a));
                nz(x.intValue(), wraps(x), un(b) < un(a));
                return x.intValue();
            case 29:
                x = big(b).multiply(big(a));
                nz(x.intValue(), wraps(x), false);
                return x.intValue();
            case 30:
                if (a == 0) {
                    trap = 2;
                    nz(b, true, false);
                    return b;
                }
                x = big(b).divide(big(a));
                if (wraps(x)) {
                    nz(b, true, false);
                    return b;
                }
                nz(x.intValue(), false, false);
                return x.intValue();
            default:
                int v = code == 31 ? a | b : code == 32 ? b & ~a : a ^ b;
                nz(v, false, c());
                return v;
        }
    }

    private void obey(int code, Op p, Op q, Op s) {
        int v;
        BigInteger x;
        switch (code) {
            case 0: stopped = 1; break;
            case 1: break;
            case 2: rei(); break;
            case 3: throw new Fault(6, 0, 0);
            case 4: ret(); break;
            case 5: regs[15] = pop(); break;
            case 6: case 7: case 8: case 9: changes = true; break;
            case 10:
                if (!isInner(q.value) || q.value == 56 && p.value >>> 1 != 0) {
                    throw new Fault(2, 0, 0);
                }
                putInner(q.value, p.value);
                break;
            case 11:
                if (!isInner(p.value)) {
                    throw new Fault(2, 0, 0);
                }
                put(q, getInner(p.value));
                nz(written, false, false);
                break;
            case 12: put(p, status); break;
            case 13: put(q, p.value); nz((byte) p.value, false, c()); break;
            case 14: put(q, p.value); nz(p.value, false, c()); break;
            case 15: put(q, p.value); nz(p.value, false, c()); break;
            case 16: put(q, (byte) p.value); nz((byte) p.value, false, c()); break;
            case 17: put(q, p.value); nz((byte) p.value, p.value < -128 || p.value > 127, false); break;
            case 18: put(q, 0 - p.value); nz(written, p.value == -2147483648, p.value != 0); break;
            case 19: put(q, -1 - p.value); nz(written, false, c()); break;
            case 20: put(p, 0); nz(0, false, c()); break;
            case 21: nz(p.value, false, false); break;
            case 22: nz((byte) p.value, false, false); break;
            case 23: nzvc(p.value < q.value, p.value == q.value, false, un(p.value) < un(q.value)); break;
            case 24:
                nzvc((byte) p.value < (byte) q.value, p.value == q.value, false, p.value < q.value);
                break;
            case 25: put(p, reckon(27, 1, p.value)); break;
            case 26: put(p, reckon(28, 1, p.value)); break;
            case 27: case 28: case 29: case 30: case 31: case 32: case 33:
                put(q, reckon(code, p.value, q.value));
                break;
            case 34: case 35: case 36: case 37: case 38: case 39: case 40:
                put(s, reckon(code - 7, p.value, q.value));
                break;
            case 41:
                int by = (byte) p.value;
                if (by >= 0) {
                    x = big(q.value).shiftLeft(by);
                    put(s, x.intValue());
                    nz(written, wraps(x), false);
                } else {
                    put(s, big(q.value).shiftRight(-by).intValue());
                    nz(written, false, false);
                }
                break;
            case 42: case 43: put(q, p.address); nz(written, false, c()); break;
            case 44: nz(p.value, false, c()); push(p.value); break;
            case 45: nz(p.address, false, c()); push(p.address); break;
            case 46: regs[15] = p.address; break;
            case 47: push(regs[15]); regs[15] = p.address; break;
            case 48: regs[15] += p.value; break;
            case 49: push(regs[15]); regs[15] += p.value; break;
            case 62: regs[15] += p.value % 2 != 0 ? q.value : 0; break;
            case 63: regs[15] += p.value % 2 == 0 ? q.value : 0; break;
            case 64: case 65:
                v = p.value - 1;
                put(p, v);
                nz(v, p.value == Integer.MIN_VALUE, c());
                regs[15] += v > 0 || v == 0 && code == 65 ? q.value : 0;
                break;
            case 66: case 67:
                v = q.value + 1;
                put(q, v);
                nz(v, q.value == Integer.MAX_VALUE, c());
                regs[15] += v < p.value || v == p.value && code == 67 ? s.value : 0;
                break;
            case 68: frame(p.value, q.address); break;
            case 69: case 70: probe(p.value % 4, q.value, s.address, code == 70); break;
            default:
                if (holds(code)) {
                    regs[15] += p.value;
                }
        }
    }

    private boolean holds(int code) {
        boolean n = (status & 8) != 0;
        boolean z = (status & 4) != 0;
        boolean v = (status & 2) != 0;
        boolean c = (status & 1) != 0;
        boolean[] all = {!z, z, !n && !z, n || z, !n, n, !c && !z, c || z, !v, v, !c, c};
        return all[code - 50];
    }

    private void frame(int count, int at) {
        push(count);
        int e = reg(14);
        int mask = readByte(at) + 256 * readByte(at + 1);
        if ((mask & 1 << 12) != 0 || (mask & 1 << 13) != 0 || (mask & 1 << 15) != 0) {
            throw new Fault(2, 0, 0);
        }
        int a = Math.floorMod(e, 4);
        setReg(14, e - a);
        for (int r = 11; r >= 0; r--) {
            if ((mask & 1 << r) != 0) {
                push(regs[r]);
            }
        }
        push(regs[15]);
        push(regs[13]);
        push(regs[12]);
        push((int) (a * (1L << 30) + (1L << 29) + (mask & 4095) * 65536L + (status & 65535)));
        push(0);
        regs[13] = reg(14);
        regs[12] = e;
        status &= ~47;
        if ((mask & 1 << 14) != 0) {
            status += 32;
        }
        regs[15] = at + 2;
    }

    private void ret() {
        setReg(14, regs[13] + 4);
        long t = un(pop());
        for (int b = 4; b <= 15; b++) {
            if (b != 5 && (t >> b & 1) == 1) {
                throw new Fault(2, 0, 0);
            }
        }
        regs[12] = pop();
        regs[13] = pop();
        regs[15] = pop();
        for (int r = 0; r <= 11; r++) {
            if ((t >> (16 + r) & 1) == 1) {
                regs[r] = pop();
            }
        }
        setReg(14, reg(14) + (int) (t >> 30));
        if ((t >> 29 & 1) == 1) {
            int longs = pop();
            setReg(14, reg(14) + 4 * (longs & 0xFF));
        }
        status = (status & ~47) + (int) (t & 47);
    }

    private void rei() {
        int pc = pop();
        int s = pop();
        int m = s >> 24 & 3;
        int previous = s >> 22 & 3;
        if ((s & ~(15 + 32 + 15 * (1 << 22))) != 0 || m < mode() || previous < m) {
            throw new Fault(2, 0, 0);
        }
        regs[15] = pc;
        status = s;
    }

    private void probe(int asked, int length, int at, boolean write) {
        int m = Math.max(asked, status >> 22 & 3);
        boolean may = true;
        int[] two = {at, at + length - 1};
        for (int i = 0; i < 2 && may; i++) {
            try {
                find(two[i], write, m, false);
            } catch (Fault f) {
                if (f.number == 5) {
                    throw f;
                }
                may = false;
            }
        }
        nzvc(false, may, false, false);
    }
}
