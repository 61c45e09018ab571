/**
 * A machine and the Oracle, to which the same is done; what they answer is compared. Like a Rig, it keeps
 * to the 512 calls of which the document speaks.
 */
final class Twin {
    static final int MOST_CALLS = 512;

    final Oracle o = new Oracle();
    final StringBuilder story = new StringBuilder();
    private final QuadMode x = new QuadMode();
    private final int[] seen = new int[2048];
    private int calls;
    private String wrong;

    int callsLeft() {
        return MOST_CALLS - calls;
    }

    /** What was wrong first; null if nothing was. */
    String wrong() {
        return wrong;
    }

    private void call() {
        calls++;
        if (calls > MOST_CALLS) {
            throw new IllegalStateException("more than " + MOST_CALLS + " calls\n" + story);
        }
    }

    private void due(String what, int k, long got, long want) {
        call();
        if (got != want && wrong == null) {
            wrong = what + " " + k + " answered " + got + ", due is " + want;
        }
    }

    private Twin told(String what, long a, long b) {
        call();
        story.append(what).append(' ').append(a).append(' ').append(b).append('\n');
        return this;
    }

    Twin fill(int address, long word) {
        x.fill(address, word);
        o.fill(address, word);
        return told("fill", address, word);
    }

    Twin set(int r, int v) {
        x.set(r, v);
        o.setReg(r, v);
        return told("set", r, v);
    }

    Twin inner(int k, int v) {
        x.setInner(k, v);
        o.putInner(k, v);
        return told("setInner", k, v);
    }

    Twin begin(int s) {
        x.begin(s);
        o.status = s;
        o.stopped = 0;
        return told("begin", s, 0);
    }

    /** Bytes one behind the other, with zeros up to the next multiple of 8. */
    Twin bytes(int at, int... bytes) {
        for (int i = 0; i < bytes.length; i += 8) {
            long word = 0;
            for (int k = 0; k < 8 && i + k < bytes.length; k++) {
                word |= (bytes[i + k] & 255L) << 8 * k;
            }
            fill(at + i, word);
        }
        return this;
    }

    void run(int n) {
        System.arraycopy(o.bytes, 0, seen, 0, 2048);
        int want = o.run(n);
        int got = x.run(n);
        story.append("run ").append(n).append('\n');
        due("run", n, got, want);
    }

    void compareReach(int address, boolean write, int mode) {
        due("reach in mode " + mode + (write ? ", write," : ", read,"), address, x.reach(address, write, mode),
                o.reach(address, write, mode));
    }

    /** What tells most of what an instruction did. */
    void compareShort(int r) {
        due("status", 0, x.status(), o.status);
        due("register", 15, x.register(15), o.reg(15));
        due("register", 14, x.register(14), o.reg(14));
        due("register", r, x.register(r), o.reg(r));
        due("state", 0, x.state(0), o.stopped);
        due("state", 2, x.state(2), o.latest);
        due("state", 3, x.state(3), o.exceptions);
    }

    void compareAll() {
        for (int r = 0; r < 16; r++) {
            due("register", r, x.register(r), o.reg(r));
        }
        for (int k : Rig.INNERS) {
            due("inner", k, x.inner(k), o.getInner(k));
        }
        due("status", 0, x.status(), o.status);
        int[] states = {o.stopped, o.done, o.latest, o.exceptions};
        for (int k = 0; k < states.length; k++) {
            due("state", k, x.state(k), states[k]);
        }
    }

    /** The longs that the latest run changed, or was to change, as far as calls are left. */
    void compareChanged(int keep) {
        for (int a = 0; a < 2048 && callsLeft() > keep; a++) {
            if (o.bytes[a] != seen[a]) {
                due("look", a, x.look(a), o.look(a));
                a += 3;
            }
        }
    }

    /** As much of storage as there are calls left, from an address on. */
    void compareStorage(int from) {
        for (int i = 0; i < 2048 && callsLeft() > 0; i += 4) {
            int a = from + i & 2047;
            due("look", a, x.look(a), o.look(a));
        }
    }
}
