import java.util.Arrays;
import java.util.Random;

/** Promises 2 to 12: programs made by chance (with fixed seeds), run by the class and by the Oracle. */
public final class BesideOracleTest {
    private static final int[] STATUSES = {
        0, 0, 0, 32, 15, 47, 0x03C00000, 0x01400000, 0x02800000, 0x03C0002F, 0x00C00000, 0x01C00020
    };
    private static final int[] VALUES = {
        0, 1, -1, 2, 3, 4, Integer.MIN_VALUE, Integer.MAX_VALUE, 0x80000000 + 64, 0x40000000, 0xC0000000, 127,
        128, -128, 255, 256, 31, 32, 33, -31, -32, 56, 17, 1024
    };
    /** Calls kept for the end: all registers and states, and a part of storage. */
    private static final int KEPT = 120;

    private final Random chance;
    private final Twin twin = new Twin();
    private final Oracle o = twin.o;
    private static final int[] codesSeen = new int[256];
    private static final int[] exceptionsSeen = new int[12];
    private static int deaths;
    private static int halts;

    private BesideOracleTest(long seed) {
        chance = new Random(seed);
    }

    private int value() {
        int k = chance.nextInt(10);
        if (k < 3) {
            return VALUES[chance.nextInt(VALUES.length)];
        }
        if (k < 7) {
            return chance.nextInt(2048);
        }
        if (k < 9) {
            return 0x80000000 + chance.nextInt(1100);
        }
        return chance.nextInt();
    }

    private int specifier() {
        int n = chance.nextInt(12) == 0 ? 15 : chance.nextInt(15);
        int k = chance.nextInt(24);
        if (k < 5) {
            return chance.nextInt(64);
        }
        if (k < 12) {
            return 0x50 + n;
        }
        if (k == 12) {
            return 0x8F;
        }
        if (k == 13) {
            return 0x9F;
        }
        int m = 4 + chance.nextInt(12);
        if ((m == 12 || m == 13) && chance.nextInt(6) != 0) {
            m = 6;
        }
        return 16 * m + n;
    }

    /** Eight bytes of what looks like a program. */
    private long program() {
        long w = 0;
        int left = 0;
        for (int i = 0; i < 8; i++) {
            int b;
            if (left == 0) {
                b = chance.nextInt(40) == 0 ? chance.nextInt(256) : 1 + chance.nextInt(70);
                left = 1 + chance.nextInt(3);
            } else {
                b = chance.nextInt(8) == 0 ? chance.nextInt(256) : specifier();
                left--;
            }
            w |= (long) b << (8 * i);
        }
        return w;
    }

    private long entry() {
        int e = chance.nextInt(32);
        int rights = chance.nextInt(3) == 0 ? chance.nextInt(16) : 15;
        e |= rights << 27;
        if (chance.nextInt(8) != 0) {
            e |= 0x80000000;
        }
        return e & 0xFFFFFFFFL;
    }

    private void tables() {
        int bs = 1024 + (chance.nextInt(4) == 0 ? chance.nextInt(64) : 0);
        twin.inner(12, bs);
        twin.inner(13, chance.nextInt(10) == 0 ? value() : 16);
        twin.inner(8, 0x80000000 + chance.nextInt(4) * 64 + (chance.nextInt(3) == 0 ? chance.nextInt(64) : 0));
        twin.inner(9, chance.nextInt(10) == 0 ? value() : 8 + chance.nextInt(40));
        twin.inner(10, 0x80000000 + chance.nextInt(256));
        twin.inner(11, chance.nextInt(4));
        for (int i = 0; i < 8; i++) {
            twin.fill(bs + 8 * i, entry() | entry() << 32);
        }
        for (int page = 0; page < 4; page++) {
            if (chance.nextBoolean()) {
                int frame = o.look(bs + 4 * page) & 31;
                for (int i = 0; i < 8; i++) {
                    twin.fill(64 * frame + 8 * i, entry() | entry() << 32);
                }
            }
        }
        twin.inner(56, 1);
    }

    /** Most of storage at its own place in regions 0 and 2, so that programs live longer. */
    private void identity() {
        int high = chance.nextBoolean() ? 0xF8000000 : 0xB8000000;
        for (int page = 0; page < 32; page += 2) {
            long one = (high | page) & 0xFFFFFFFFL;
            long two = (high | page + 1) & 0xFFFFFFFFL;
            twin.fill(1536 + 4 * page, one | two << 32);
        }
        twin.inner(12, 1536);
        twin.inner(13, 31);
        twin.inner(8, 0x80000000 + 1536);
        twin.inner(9, 31);
    }

    private void make() {
        int start = 64 * (2 + chance.nextInt(6));
        for (int i = 0; i < 24; i++) {
            twin.fill(start + 8 * i, program());
        }
        int vectors = 1920 + chance.nextInt(64);
        twin.inner(17, vectors);
        for (int i = 0; i < 12; i += 2) {
            long one = start + chance.nextInt(190);
            long two = start + chance.nextInt(190);
            twin.fill(vectors + 4 * i, one | two << 32);
        }
        for (int m = 0; m < 4; m++) {
            twin.inner(m, 1200 + 128 * m + chance.nextInt(128));
        }
        twin.begin(STATUSES[chance.nextInt(STATUSES.length)]);
        for (int r = 0; r < 14; r++) {
            twin.set(r, value());
        }
        twin.set(15, start);
        if (chance.nextBoolean()) {
            tables();
            if (chance.nextBoolean()) {
                identity();
            }
        }
    }

    private void beginAgain() {
        if (o.stopped == 1) {
            halts++;
        } else {
            deaths++;
        }
        twin.begin(STATUSES[chance.nextInt(STATUSES.length)]);
        twin.set(15, 128 + chance.nextInt(512));
        twin.set(14, value());
    }

    private void noteCode() {
        int place = o.reach(o.reg(15), false, o.mode());
        if (place >= 0) {
            codesSeen[o.look(place) & 255]++;
        }
    }

    private String go() {
        make();
        for (int i = 0; i < 10; i++) {
            twin.compareReach(value(), chance.nextBoolean(), chance.nextInt(4));
        }
        while (twin.callsLeft() > KEPT + 40 && twin.wrong() == null) {
            if (o.stopped != 0) {
                if (chance.nextInt(4) == 0) {
                    break;
                }
                beginAgain();
            }
            noteCode();
            twin.run(chance.nextInt(4) == 0 ? 1 + chance.nextInt(20) : 1);
            exceptionsSeen[o.latest]++;
            twin.compareShort(chance.nextInt(14));
            twin.compareChanged(KEPT);
            if (chance.nextInt(5) == 0) {
                twin.fill(o.reg(15) & 2047, program());
            }
            if (chance.nextInt(8) == 0) {
                twin.set(chance.nextInt(15), value());
            }
        }
        twin.compareAll();
        twin.compareStorage(chance.nextInt(2048));
        return twin.wrong();
    }

    public static void main(String[] args) {
        int rounds = args.length > 0 ? Integer.parseInt(args[0]) : 40000;
        for (int i = 0; i < rounds; i++) {
            BesideOracleTest t = new BesideOracleTest(i);
            String bad = t.go();
            if (bad != null) {
                System.out.println(t.twin.story);
                System.out.println("seed " + i + ": " + bad);
                System.exit(1);
            }
        }
        if (args.length > 1) {
            System.out.println("codes " + Arrays.toString(codesSeen));
            System.out.println("exceptions " + Arrays.toString(exceptionsSeen) + " deaths " + deaths + " halts " + halts);
        }
    }
}
