/** A machine with a program at 128, vectors at 1920 (exception k goes to 1000 + 16 * k), stacks of the modes. */
final class Rig {
    static final int START = 128;
    static final int VECTORS = 1920;
    static final int[] TOPS = {1600, 1500, 1400, 1300};

    final QuadMode x = new QuadMode();
    private final Check check;
    private final String name;

    Rig(Check check, String name) {
        this.check = check;
        this.name = name;
        x.setInner(17, VECTORS);
        for (int k = 1; k < 12; k++) {
            longAt(VECTORS + 4 * k, 1000 + 16 * k);
        }
        for (int m = 0; m < 4; m++) {
            x.setInner(m, TOPS[m]);
        }
        x.set(15, START);
    }

    Rig bytes(int at, int... bytes) {
        for (int i = 0; i < bytes.length; i++) {
            long rest = (long) x.look(at + i + 4) << 32;
            x.fill(at + i, rest | (x.look(at + i) & 0xFFFFFF00L | bytes[i] & 255) & 0xFFFFFFFFL);
        }
        return this;
    }

    Rig longAt(int at, int v) {
        return bytes(at, v, v >> 8, v >> 16, v >> 24);
    }

    Rig program(int... bytes) {
        return bytes(START, bytes);
    }

    Rig with(int r, int v) {
        x.set(r, v);
        return this;
    }

    Rig status(int s) {
        x.begin(s);
        return this;
    }

    Rig inner(int k, int v) {
        x.setInner(k, v);
        return this;
    }

    Rig run(int n) {
        check.due(name + ": run(" + n + ")", x.run(n), n);
        return this;
    }

    Rig register(int r, int v) {
        check.due(name + ": register(" + r + ")", x.register(r), v);
        return this;
    }

    Rig look(int at, int v) {
        check.due(name + ": look(" + at + ")", x.look(at), v);
        return this;
    }

    Rig hasStatus(int s) {
        check.due(name + ": status()", x.status(), s);
        return this;
    }

    Rig hasInner(int k, int v) {
        check.due(name + ": inner(" + k + ")", x.inner(k), v);
        return this;
    }

    Rig state(int what, int v) {
        check.due(name + ": state(" + what + ")", x.state(what), v);
        return this;
    }

    Rig reach(int address, boolean write, int mode, int v) {
        check.due(name + ": reach(" + address + ", " + write + ", " + mode + ")", x.reach(address, write, mode), v);
        return this;
    }

    /** That the latest of so many exceptions was this one, and its handler is to come. */
    Rig excepted(int number, int all) {
        state(2, number);
        state(3, all);
        return register(15, 1000 + 16 * number);
    }

    /** That one instruction makes this fault of kernel mode, taken back, with nothing but status and PC pushed. */
    Rig faults(int number) {
        int pc = x.register(15);
        int s = x.status();
        int[] before = new int[14];
        for (int r = 0; r < 14; r++) {
            before[r] = x.register(r);
        }
        int top = x.inner(0);
        int all = x.state(3);
        run(1);
        excepted(number, all + 1);
        int more = number == 4 || number == 5 ? 16 : 8;
        hasInner(0, top - more);
        look(top - 4, s);
        look(top - 8, pc);
        for (int r = 0; r < 14; r++) {
            register(r, before[r]);
        }
        return this;
    }
}
