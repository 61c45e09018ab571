import java.util.Random;

/**
 * Promises 2 to 12: programs made by chance (with fixed seeds), run by the class and by the Oracle.
 * All of storage is looked at behind each run: that is more than the 512 calls of which the document
 * speaks, but this class does not count calls.
 */
public final class BesideOracleTest {
    private static final int[] STATUSES = {
        0, 0, 0, 32, 15, 47, 0x03C00000, 0x01400000, 0x02800000, 0x03C0002F, 0x00C00000, 0x01C00020
    };
    private static final int[] INNERS = {0, 1, 2, 3, 8, 9, 10, 11, 12, 13, 17, 56};
    private static final int[] VALUES = {
        0, 1, -1, 2, 3, 4, Integer.MIN_VALUE, Integer.MAX_VALUE, 0x80000000 + 64, 0x40000000, 0xC0000000, 127,
        128, -128, 255, 256, 31, 32, 33, -31, -32, 56, 17, 1024
    };

    private final Random chance;
    private final QuadMode x = new QuadMode();
    private final Oracle o = new Oracle();
    private final StringBuilder story = new StringBuilder();
    private static final int[] codesSeen = new int[256];
    private static final int[] exceptionsSeen = new int[12];
    private static int deaths;
    private static int halts;

    private BesideOracleTest(long seed) {
        chance = new Random(seed);
    }

    private int value() {
        int k = chance.nextInt(10);
        if (k < 3) {
            return VALUES[chance.nextInt(VALUES.length)];
        }
        if (k < 7) {
            return chance.nextInt(2048);
        }
        if (k < 9) {
            return 0x80000000 + chance.nextInt(1100);
        }
        return chance.nextInt();
    }

    private void fill(int address, long word) {
        story.append("fill ").append(address).append(' ').append(word).append('\n');
        x.fill(address, word);
        o.fill(address, word);
    }

    private void set(int r, int v) {
        story.append("set ").append(r).append(' ').append(v).append('\n');
        x.set(r, v);
        o.setReg(r, v);
    }

    private void setInner(int k, int v) {
        story.append("setInner ").append(k).append(' ').append(v).append('\n');
        x.setInner(k, v);
        o.putInner(k, v);
    }

    private void begin(int s) {
        story.append("begin ").append(s).append('\n');
        x.begin(s);
        o.status = s;
        o.stopped = 0;
    }

    private int specifier() {
        int n = chance.nextInt(12) == 0 ? 15 : chance.nextInt(15);
        int k = chance.nextInt(24);
        if (k < 5) {
            return chance.nextInt(64);
        }
        if (k < 12) {
            return 0x50 + n;
        }
        if (k == 12) {
            return 0x8F;
        }
        if (k == 13) {
            return 0x9F;
        }
        int m = 4 + chance.nextInt(12);
        if ((m == 12 || m == 13) && chance.nextInt(6) != 0) {
            m = 6;
        }
        return 16 * m + n;
    }

    /** Eight bytes of what looks like a program. */
    private long program() {
        long w = 0;
        int left = 0;
        for (int i = 0; i < 8; i++) {
            int b;
            if (left == 0) {
                b = chance.nextInt(40) == 0 ? chance.nextInt(256) : 1 + chance.nextInt(70);
                left = 1 + chance.nextInt(3);
            } else {
                b = chance.nextInt(8) == 0 ? chance.nextInt(256) : specifier();
                left--;
            }
            w |= (long) b << (8 * i);
        }
        return w;
    }

    private int entry() {
        int e = chance.nextInt(32);
        int rights = chance.nextInt(3) == 0 ? chance.nextInt(16) : 15;
        e |= rights << 27;
        if (chance.nextInt(8) != 0) {
            e |= 0x80000000;
        }
        return e;
    }

    private void tables() {
        int bs = 1024 + (chance.nextInt(4) == 0 ? chance.nextInt(64) : 0);
        setInner(12, bs);
        setInner(13, chance.nextInt(10) == 0 ? value() : 16);
        setInner(8, 0x80000000 + chance.nextInt(4) * 64 + (chance.nextInt(3) == 0 ? chance.nextInt(64) : 0));
        setInner(9, chance.nextInt(10) == 0 ? value() : 8 + chance.nextInt(40));
        setInner(10, 0x80000000 + chance.nextInt(256));
        setInner(11, chance.nextInt(4));
        for (int i = 0; i < 8; i++) {
            fill(bs + 8 * i, (entry() & 0xFFFFFFFFL) | (long) entry() << 32);
        }
        for (int page = 0; page < 4; page++) {
            if (chance.nextBoolean()) {
                int frame = o.look(bs + 4 * page) & 31;
                for (int i = 0; i < 8; i++) {
                    fill(64 * frame + 8 * i, (entry() & 0xFFFFFFFFL) | (long) entry() << 32);
                }
            }
        }
        setInner(56, 1);
    }

    private void make() {
        int start = 64 * (2 + chance.nextInt(6));
        for (int i = 0; i < 24; i++) {
            fill(start + 8 * i, program());
        }
        int vectors = 1920 + chance.nextInt(64);
        setInner(17, vectors);
        for (int i = 0; i < 12; i += 2) {
            long one = start + chance.nextInt(190);
            long two = start + chance.nextInt(190);
            fill(vectors + 4 * i, one | two << 32);
        }
        for (int m = 0; m < 4; m++) {
            setInner(m, 1200 + 128 * m + chance.nextInt(128));
        }
        begin(STATUSES[chance.nextInt(STATUSES.length)]);
        for (int r = 0; r < 14; r++) {
            set(r, value());
        }
        set(15, start);
        if (chance.nextBoolean()) {
            tables();
            if (chance.nextBoolean()) {
                identity();
            }
        }
    }

    /** Most of storage at its own place in regions 0 and 2, so that programs live longer. */
    private void identity() {
        int high = chance.nextBoolean() ? 0xF8000000 : 0xB8000000;
        for (int page = 0; page < 32; page += 2) {
            long one = (high | page) & 0xFFFFFFFFL;
            long two = (high | page + 1) & 0xFFFFFFFFL;
            fill(1536 + 4 * page, one | two << 32);
        }
        setInner(12, 1536);
        setInner(13, 31);
        setInner(8, 0x80000000 + 1536);
        setInner(9, 31);
    }

    private String differs() {
        for (int r = 0; r < 16; r++) {
            if (x.register(r) != o.reg(r)) {
                return "register " + r + " " + x.register(r) + " due " + o.reg(r);
            }
        }
        for (int k : INNERS) {
            if (x.inner(k) != o.getInner(k)) {
                return "inner " + k + " " + x.inner(k) + " due " + o.getInner(k);
            }
        }
        if (x.status() != o.status) {
            return "status " + x.status() + " due " + o.status;
        }
        int[] due = {o.stopped, o.done, o.latest, o.exceptions, -1};
        for (int k = 0; k < due.length; k++) {
            if (x.state(k) != due[k]) {
                return "state " + k + " " + x.state(k) + " due " + due[k];
            }
        }
        for (int a = 0; a < 2048; a += 4) {
            if (x.look(a) != o.look(a)) {
                return "look " + a + " " + x.look(a) + " due " + o.look(a);
            }
        }
        return null;
    }

    private String compareReach() {
        for (int i = 0; i < 30; i++) {
            int a = value();
            boolean w = chance.nextBoolean();
            int m = chance.nextInt(4);
            if (x.reach(a, w, m) != o.reach(a, w, m)) {
                return "reach " + a + " " + w + " " + m + " " + x.reach(a, w, m) + " due " + o.reach(a, w, m);
            }
        }
        return null;
    }

    private String go() {
        make();
        String bad = compareReach();
        for (int i = 0; i < 40 && bad == null; i++) {
            if (o.stopped != 0) {
                if (o.stopped == 1) {
                    halts++;
                } else {
                    deaths++;
                }
                if (chance.nextInt(4) == 0) {
                    return differs();
                }
                begin(STATUSES[chance.nextInt(STATUSES.length)]);
                set(15, 128 + chance.nextInt(512));
                set(14, value());
            }
            int n = chance.nextInt(4) == 0 ? 1 + chance.nextInt(20) : 1;
            int place = o.reach(o.reg(15), false, o.mode());
            if (place >= 0) {
                codesSeen[o.look(place) & 255]++;
            }
            story.append("run ").append(n).append(" code ").append(place >= 0 ? o.look(place) & 255 : -1).append('\n');
            int got = x.run(n);
            int want = o.run(n);
            exceptionsSeen[o.latest]++;
            bad = got != want ? "run " + got + " due " + want : differs();
            if (chance.nextInt(5) == 0) {
                fill(o.reg(15) & 2047, program());
            }
            if (chance.nextInt(8) == 0) {
                set(chance.nextInt(15), value());
            }
        }
        return bad;
    }

    public static void main(String[] args) {
        int rounds = args.length > 0 ? Integer.parseInt(args[0]) : 20000;
        for (int i = 0; i < rounds; i++) {
            BesideOracleTest t = new BesideOracleTest(i);
            String bad = t.go();
            if (bad != null) {
                System.out.println(t.story);
                System.out.println("seed " + i + ": " + bad);
                System.exit(1);
            }
        }
        if (args.length > 1) {
            System.out.println("codes " + java.util.Arrays.toString(codesSeen));
            System.out.println("exceptions " + java.util.Arrays.toString(exceptionsSeen) + " deaths " + deaths + " halts " + halts);
        }
    }
}
