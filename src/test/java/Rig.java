/**
 * A machine with a program at 128, vectors at 1920 (exception k goes to 1000 + 16 * k) and a stack for
 * each mode. It counts its calls: the document promises nothing beyond the 512th.
 */
final class Rig {
    static final int START = 128;
    static final int VECTORS = 1920;
    static final int[] TOPS = {1600, 1500, 1400, 1300};
    static final int[] INNERS = {0, 1, 2, 3, 8, 9, 10, 11, 12, 13, 17, 56};
    static final int SYSTEM = 0x80000000;
    static final int ONE = 0x40000000;
    /** An entry, but for its frame, that is VALID and open to all. */
    static final int OPEN = 0xF8000000;
    /** Open to all, but not VALID. */
    static final int SHUT = 0x78000000;
    static final int MODIFIED = 1 << 26;
    private static final int MOST_CALLS = 512;

    final QuadMode x = new QuadMode();
    private final Check check;
    private final String name;
    private int calls;

    Rig(Check check, String name) {
        this.check = check;
        this.name = name;
        inner(17, VECTORS);
        for (int k = 0; k < 12; k += 2) {
            long even = k == 0 ? 0 : 1000 + 16 * k;
            fill(VECTORS + 4 * k, even | (1000L + 16 * (k + 1)) << 32);
        }
        for (int m = 0; m < 4; m++) {
            inner(m, TOPS[m]);
        }
        with(15, START);
    }

    /**
     * MAPPED, with the code at SYSTEM. Region 2: its pages 0, 1, 2 at 128, 1280, 1344; page 3 isn't VALID; LS is 4.
     * Region 0: entries from 1288 on, its pages 0, 1 at 512, 576; page 2 isn't VALID; L0 is 3.
     * Region 1: L1 is 5; its pages 5, 6 at 704, 768, their entries at 1344 and 1348.
     */
    static Rig mapped(Check check, String name) {
        Rig rig = new Rig(check, name).inner(12, 1024).inner(13, 4).inner(8, SYSTEM + 72).inner(9, 3)
                .inner(10, SYSTEM + 128 - 20).inner(11, 5);
        rig.longs(1024, OPEN + 2, OPEN + 20, OPEN + 21, SHUT + 3);
        rig.longs(1288, OPEN + 8, OPEN + 9).longAt(1296, SHUT + 10);
        rig.longs(1344, OPEN + 11, OPEN + 12);
        return rig.inner(56, 1).with(15, SYSTEM);
    }

    private void count(int more) {
        calls += more;
        if (calls > MOST_CALLS) {
            throw new IllegalStateException(name + ": more than " + MOST_CALLS + " calls");
        }
    }

    Rig fill(int at, long word) {
        count(1);
        x.fill(at, word);
        return this;
    }

    Rig bytes(int at, int... bytes) {
        for (int i = 0; i < bytes.length; i += 8) {
            int n = Math.min(8, bytes.length - i);
            long word = 0;
            if (n < 8) {
                count(2);
                word = (long) x.look(at + i + 4) << 32 | x.look(at + i) & 0xFFFFFFFFL;
                word = word >>> 8 * n << 8 * n;
            }
            for (int k = 0; k < n; k++) {
                word |= (bytes[i + k] & 255L) << 8 * k;
            }
            fill(at + i, word);
        }
        return this;
    }

    Rig longAt(int at, int v) {
        return bytes(at, v, v >> 8, v >> 16, v >> 24);
    }

    /** Longs one behind the other; an even number of them. */
    Rig longs(int at, int... values) {
        for (int i = 0; i + 1 < values.length; i += 2) {
            fill(at + 4 * i, values[i] & 0xFFFFFFFFL | (long) values[i + 1] << 32);
        }
        return this;
    }

    Rig program(int... bytes) {
        return bytes(START, bytes);
    }

    Rig with(int r, int v) {
        count(1);
        x.set(r, v);
        return this;
    }

    Rig status(int s) {
        count(1);
        x.begin(s);
        return this;
    }

    Rig inner(int k, int v) {
        count(1);
        x.setInner(k, v);
        return this;
    }

    Rig run(int n) {
        return run(n, n);
    }

    Rig run(int n, int done) {
        count(1);
        check.due(name + ": run(" + n + ")", x.run(n), done);
        return this;
    }

    Rig register(int r, int v) {
        count(1);
        check.due(name + ": register(" + r + ")", x.register(r), v);
        return this;
    }

    Rig look(int at, int v) {
        count(1);
        check.due(name + ": look(" + at + ")", x.look(at), v);
        return this;
    }

    Rig hasStatus(int s) {
        count(1);
        check.due(name + ": status()", x.status(), s);
        return this;
    }

    Rig hasInner(int k, int v) {
        count(1);
        check.due(name + ": inner(" + k + ")", x.inner(k), v);
        return this;
    }

    Rig state(int what, int v) {
        count(1);
        check.due(name + ": state(" + what + ")", x.state(what), v);
        return this;
    }

    Rig reach(int address, boolean write, int mode, int v) {
        count(1);
        check.due(name + ": reach(" + address + ", " + write + ", " + mode + ")", x.reach(address, write, mode), v);
        return this;
    }

    /** A call that must be refused, and must leave all as it was. */
    Rig refused(String what, Class<? extends RuntimeException> due, Runnable call) {
        int[] before = all();
        count(1);
        check.throwing(name + ": " + what, due, call);
        int[] behind = all();
        for (int i = 0; i < before.length; i++) {
            check.due(name + ": " + what + " was refused; what is seen, " + i, behind[i], before[i]);
        }
        return this;
    }

    private int[] all() {
        int[] all = new int[16 + INNERS.length + 5];
        count(all.length);
        int n = 0;
        for (int r = 0; r < 16; r++) {
            all[n++] = x.register(r);
        }
        for (int k : INNERS) {
            all[n++] = x.inner(k);
        }
        for (int what = 0; what < 4; what++) {
            all[n++] = x.state(what);
        }
        all[n] = x.status();
        return all;
    }

    /** That the latest of so many exceptions was this one, and its handler is to come. */
    Rig excepted(int number, int all) {
        state(2, number);
        state(3, all);
        return register(15, 1000 + 16 * number);
    }

    /** That one instruction goes by without an exception. */
    Rig passes() {
        run(1);
        return state(3, 0).state(0, 0);
    }

    /** That one instruction makes this fault of kernel mode, taken back, with nothing but status and PC pushed. */
    Rig faults(int number) {
        count(15);
        int pc = x.register(15);
        int s = x.status();
        int[] before = new int[14];
        for (int r = 0; r < 14; r++) {
            before[r] = x.register(r);
        }
        int top = x.inner(0);
        int all = x.state(3);
        count(4);
        run(1);
        excepted(number, all + 1);
        int more = number == 4 || number == 5 ? 16 : 8;
        hasInner(0, top - more);
        look(top - 4, s);
        look(top - 8, pc);
        for (int r = 0; r < 14; r++) {
            register(r, before[r]);
        }
        return this;
    }
}
