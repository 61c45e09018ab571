/** Promise 10: what the codes do, their conditions and traps. */
public final class CodesTest {
    private static final Check CHECK = new Check();
    private static final int LEAST = Integer.MIN_VALUE;
    private static final int GREATEST = Integer.MAX_VALUE;
    private static final int C = 1, V = 2, Z = 4, N = 8, IV = 32;

    private static Rig rig(String name) {
        return new Rig(CHECK, name);
    }

    /** A code with R1 and, if it has one, R2 behind it: what R2 (or R1) is then, and the conditions. */
    private static void one(int code, int a, int conditions) {
        for (int before = 0; before < 16; before++) {
            int c = conditions < 0 ? -conditions - 1 | before & C : conditions;
            rig(code + " of " + a).program(code, 0x51).with(1, a).status(before).run(1).hasStatus(c)
                    .register(15, 130).state(3, 0);
        }
    }

    private static void two(int code, int a, int b, int result, int conditions) {
        for (int before = 0; before < 16; before++) {
            int c = conditions < 0 ? -conditions - 1 | before & C : conditions;
            rig(code + " of " + a + " and " + b).program(code, 0x51, 0x52).with(1, a).with(2, b).status(before)
                    .run(1).hasStatus(c).register(1, a).register(2, result).register(15, 131).state(3, 0);
        }
    }

    /** A code of 27 to 33 and that of 34 to 40 that goes with it; neither divides by 0. */
    private static void both(int code, int a, int b, int result, int conditions) {
        two(code, a, b, result, conditions);
        for (int before = 0; before < 16; before++) {
            int c = conditions < 0 ? -conditions - 1 | before & C : conditions;
            rig(code + 7 + " of " + a + " and " + b).program(code + 7, 0x51, 0x52, 0x53).with(1, a).with(2, b)
                    .status(before).run(1).hasStatus(c).register(1, a).register(2, b).register(3, result)
                    .register(15, 132).state(3, 0);
        }
    }

    /** These conditions, and C as it was. */
    private static int cStays(int conditions) {
        return -conditions - 1;
    }

    private static void moves() {
        two(13, 0x1FF, 0x12345678, 0x123456FF, cStays(N));
        two(13, 0x100, 0x12345678, 0x12345600, cStays(Z));
        two(13, 0x7F, -1, 0xFFFFFF7F, cStays(0));
        two(14, LEAST, 4, LEAST, cStays(N));
        two(14, 0, 4, 0, cStays(Z));
        two(14, 128, 4, 128, cStays(0));
        two(15, 0x1FF, -1, 255, cStays(0));
        two(15, 0x100, -1, 0, cStays(Z));
        two(16, 0x1FF, 3, -1, cStays(N));
        two(16, 0x180, 3, -128, cStays(N));
        two(16, 0x17F, 3, 127, cStays(0));
        two(16, 0x100, 3, 0, cStays(Z));
        two(17, 127, -1, 0xFFFFFF7F, 0);
        two(17, 128, -1, 0xFFFFFF80, N | V);
        two(17, -128, 0, 0x80, N);
        two(17, -129, 0, 0x7F, V);
        two(17, 256, -1, 0xFFFFFF00, Z | V);
        two(17, 0, -1, 0xFFFFFF00, Z);
        two(18, 5, 0, -5, N | C);
        two(18, -5, 0, 5, C);
        two(18, 0, 3, 0, Z);
        two(18, LEAST, 3, LEAST, N | V | C);
        two(19, 0, 3, -1, cStays(N));
        two(19, -1, 3, 0, cStays(Z));
        two(19, -6, 3, 5, cStays(0));
        one(20, 77, cStays(Z));
        rig("clear").program(20, 0x51).with(1, -1).run(1).register(1, 0);
        rig("clear in memory").program(20, 0x61).with(1, 600).longAt(598, -1).longAt(602, -1).run(1)
                .look(600, 0).look(596, 0xFFFF0000).look(604, 0xFFFF);
        rig("a byte in memory").program(13, 0x8F, 0xAB, 0x61).with(1, 601).longAt(600, -1).run(1).look(600, 0xFFFFABFF);
        rig("narrow in memory").program(17, 0x52, 0x61).with(2, 0xAB).with(1, 601).longAt(600, -1).run(1)
                .look(600, 0xFFFFABFF);
        rig("status").program(12, 0x50).status(0x01C0002F).run(1).register(0, 0x01C0002F).hasStatus(0x01C0002F);
    }

    private static void comparisons() {
        one(21, 0, Z);
        one(21, -1, N);
        one(21, 128, 0);
        one(22, 0x100, Z);
        one(22, 0x180, N);
        one(22, 0xFF7F, 0);
        two(23, 1, 2, 2, N | C);
        two(23, 2, 1, 1, 0);
        two(23, 7, 7, 7, Z);
        two(23, -1, 1, 1, N);
        two(23, 1, -1, -1, C);
        two(23, LEAST, GREATEST, GREATEST, N);
        two(23, GREATEST, LEAST, LEAST, C);
        two(24, 0x101, 0x202, 0x202, N | C);
        two(24, 0x202, 0x301, 0x301, 0);
        two(24, 0x107, 0x207, 0x207, Z);
        two(24, 0xFF, 0x01, 0x01, N);
        two(24, 0x01, 0xFF, 0xFF, C);
        two(24, 0x80, 0x7F, 0x7F, N);
        two(24, 0x80, 0xFF, 0xFF, N | C);
    }

    private static void steps() {
        one(25, 5, 0);
        one(25, -1, Z | C);
        one(25, GREATEST, N | V);
        one(25, -2, N);
        one(26, 5, 0);
        one(26, 1, Z);
        one(26, 0, N | C);
        one(26, LEAST, V);
        rig("increment").program(25, 0x61).with(1, 600).longAt(600, 255).run(1).look(600, 256);
        rig("decrement").program(26, 0x61).with(1, 600).longAt(600, 256).run(1).look(600, 255);
        rig("increment R").program(25, 0x51).with(1, GREATEST).run(1).register(1, LEAST);
        rig("decrement R").program(26, 0x51).with(1, LEAST).run(1).register(1, GREATEST);
    }

    private static void sums() {
        both(27, 3, 5, 8, 0);
        both(27, -5, 5, 0, Z | C);
        both(27, -1, -1, -2, N | C);
        both(27, 1, GREATEST, LEAST, N | V);
        both(27, LEAST, LEAST, 0, Z | V | C);
        both(27, LEAST, -1, GREATEST, V | C);
        both(28, 3, 5, 2, 0);
        both(28, 5, 3, -2, N | C);
        both(28, 5, 5, 0, Z);
        both(28, 1, LEAST, GREATEST, V);
        both(28, -1, GREATEST, LEAST, N | V | C);
        both(28, LEAST, 0, LEAST, N | V | C);
        both(28, 1, -1, -2, N);
        both(29, 6, -7, -42, N);
        both(29, 0, LEAST, 0, Z);
        both(29, 65536, 65536, 0, Z | V);
        both(29, -1, LEAST, LEAST, N | V);
        both(29, LEAST, LEAST, 0, Z | V);
        both(29, 46341, 46341, 46341 * 46341, N | V);
        both(29, GREATEST, GREATEST, 1, V);
        both(30, 2, 7, 3, 0);
        both(30, 2, -7, -3, N);
        both(30, -2, 7, -3, N);
        both(30, -2, -7, 3, 0);
        both(30, 8, 7, 0, Z);
        both(30, -1, LEAST, LEAST, N | V);
        both(30, 1, LEAST, LEAST, N);
        both(30, -1, GREATEST, -GREATEST, N);
        both(31, 0xF0, 0x0F, 0xFF, cStays(0));
        both(31, LEAST, 1, LEAST + 1, cStays(N));
        both(31, 0, 0, 0, cStays(Z));
        both(32, 0xF0, 0xFF, 0x0F, cStays(0));
        both(32, -1, 77, 0, cStays(Z));
        both(32, 1, -1, -2, cStays(N));
        both(33, 0xF0, 0xFF, 0x0F, cStays(0));
        both(33, 77, 77, 0, cStays(Z));
        both(33, 1, -1, -2, cStays(N));
    }

    private static void shifted(int by, int v, int result, int conditions) {
        rig("shift " + v + " by " + by).program(41, 0x8F, by, 0x51, 0x52).with(1, v).status(15).run(1)
                .register(1, v).register(2, result).hasStatus(conditions).register(15, 133);
    }

    private static void shifts() {
        shifted(0, -5, -5, N);
        shifted(4, 71, 1136, 0);
        shifted(31, 1, LEAST, N | V);
        shifted(31, -1, LEAST, N);
        shifted(31, 2, 0, Z | V);
        shifted(30, 1, 1 << 30, 0);
        shifted(1, 1 << 30, LEAST, N | V);
        shifted(1, LEAST, 0, Z | V);
        shifted(32, 1, 0, Z | V);
        shifted(32, 0, 0, Z);
        shifted(127, -1, 0, Z | V);
        shifted(64, 3, 0, Z | V);
        shifted(-2, -35, -9, N);
        shifted(-1, 7, 3, 0);
        shifted(-31, LEAST, -1, N);
        shifted(-31, GREATEST, 0, Z);
        shifted(-32, LEAST, -1, N);
        shifted(-32, GREATEST, 0, Z);
        shifted(-128, -5, -1, N);
        shifted(-64, 5, 0, Z);
    }

    private static void addresses() {
        for (int c = 0; c < 2; c++) {
            rig("address").program(42, 0xA1, 4, 0x50).with(1, -4).status(c | V | N).run(1).register(0, 0).hasStatus(c | Z);
            rig("byte address").program(43, 0xA1, 4, 0x50).with(1, LEAST).status(c | V | Z).run(1)
                    .register(0, LEAST + 4).hasStatus(c | N);
            rig("push").program(44, 0x51).with(1, -9).status(c | V | Z).run(1).register(14, 1596).look(1596, -9)
                    .hasStatus(c | N);
            rig("push 0").program(44, 0).status(c | V | N).longAt(1596, -1).run(1).look(1596, 0).hasStatus(c | Z);
            rig("push address").program(45, 0x42, 0x61).with(1, 600).with(2, 2).status(c | 14).run(1)
                    .register(14, 1596).look(1596, 608).hasStatus(c);
        }
        rig("push the stack pointer").program(44, 0x5E).run(1).look(1596, 1600);
        rig("push what is popped").program(44, 0x8E).longAt(1600, 8).run(1).look(1600, 8).register(14, 1600);
    }

    private static void jumps() {
        rig("jump").program(46, 0xA1, 4).with(1, 700).status(47).run(1).register(15, 704).hasStatus(47).register(14, 1600);
        rig("jump, indexed by bytes").program(46, 0x42, 0x61).with(1, 700).with(2, 3).run(1).register(15, 703);
        rig("call").program(47, 0x61).with(1, 700).status(47).run(1).register(15, 700).look(1596, 130)
                .register(14, 1596).hasStatus(47).bytes(700, 5).run(1).register(15, 130).register(14, 1600).hasStatus(47);
        rig("go").program(48, 0x7F).run(1).register(15, 130 + 127);
        rig("go back").program(48, 0x80).status(15).run(1).register(15, 130 - 128).hasStatus(15);
        rig("call near").program(49, 0xFC).run(1).register(15, 126).look(1596, 130).register(14, 1596);
        rig("nop").program(1).status(47).run(1).register(15, 129).hasStatus(47);
    }

    private static void branches() {
        for (int s = 0; s < 16; s++) {
            boolean n = (s & N) != 0;
            boolean z = (s & Z) != 0;
            boolean v = (s & V) != 0;
            boolean c = (s & C) != 0;
            boolean[] taken = {!z, z, !n && !z, n || z, !n, n, !c && !z, c || z, !v, v, !c, c};
            for (int k = 0; k < taken.length; k++) {
                rig("branch " + (50 + k) + " of " + s).program(50 + k, 0xF0).status(s | IV).run(1)
                        .register(15, taken[k] ? 130 - 16 : 130).hasStatus(s | IV);
            }
        }
        rig("62 taken").program(62, 0x51, 5).with(1, -1).status(15).run(1).register(15, 136).hasStatus(15);
        rig("62 not").program(62, 0x51, 5).with(1, -2).run(1).register(15, 131);
        rig("63 taken").program(63, 0x51, 5).with(1, LEAST).run(1).register(15, 136);
        rig("63 not").program(63, 0x51, 5).with(1, 3).status(15).run(1).register(15, 131).hasStatus(15);
    }

    private static void counter(int code, int bound, int v, int result, int conditions, boolean taken) {
        for (int c = 0; c < 2; c++) {
            Rig rig = rig(code + " of " + v + " to " + bound);
            if (code < 66) {
                rig.program(code, 0x52, 0xE0);
            } else {
                rig.program(code, 0x51, 0x52, 0xE0);
            }
            int behind = code < 66 ? 131 : 132;
            rig.with(1, bound).with(2, v).status(14 | c).run(1).register(2, result).hasStatus(conditions | c)
                    .register(15, taken ? behind - 32 : behind).state(3, 0);
        }
    }

    private static void counters() {
        counter(64, 0, 2, 1, 0, true);
        counter(64, 0, 1, 0, Z, false);
        counter(64, 0, 0, -1, N, false);
        counter(64, 0, LEAST, GREATEST, V, true);
        counter(65, 0, 2, 1, 0, true);
        counter(65, 0, 1, 0, Z, true);
        counter(65, 0, 0, -1, N, false);
        counter(65, 0, LEAST, GREATEST, V, true);
        counter(66, 5, 3, 4, 0, true);
        counter(66, 5, 4, 5, 0, false);
        counter(66, 5, 5, 6, 0, false);
        counter(66, 5, -1, 0, Z, true);
        counter(66, 5, GREATEST, LEAST, N | V, true);
        counter(66, -5, -9, -8, N, true);
        counter(67, 5, 4, 5, 0, true);
        counter(67, 5, 5, 6, 0, false);
        counter(67, 5, 3, 4, 0, true);
        counter(67, LEAST, GREATEST, LEAST, N | V, true);
        rig("64 in memory").program(64, 0x81, 4).with(1, 600).longAt(600, 9).run(1).look(600, 8).register(1, 604)
                .register(15, 135);
    }

    /** IV set and V set: trap 1, behind the instruction, which stays done. */
    private static void traps() {
        rig("add").program(27, 1, 0x51).with(1, GREATEST).status(0x03C00000 | IV | C).run(1).excepted(7, 1)
                .hasStatus(0x00C00000).register(1, LEAST).hasInner(0, 1588).look(1588, 1).look(1592, 131)
                .look(1596, 0x03C00000 | IV | N | V).hasInner(3, 1300);
        int[][] all = {
            {17, 0x51, 0x52}, {18, 0x51, 0x52}, {26, 0x51}, {27, 0x51, 0x51}, {28, 1, 0x51}, {29, 2, 0x51},
            {30, 0x53, 0x51}, {34, 0x51, 0x51, 0x52}, {35, 1, 0x51, 0x52}, {36, 2, 0x51, 0x52},
            {37, 0x53, 0x51, 0x52}, {41, 1, 0x51, 0x52}, {64, 0x51, 0}, {65, 0x51, 0}
        };
        for (int[] program : all) {
            int behind = 128 + program.length;
            rig("trap of " + program[0]).program(program).with(1, LEAST).with(3, -1).status(IV).run(1).excepted(7, 1)
                    .look(1588, 1).look(1592, behind);
            rig("no trap of " + program[0]).program(program).with(1, LEAST).with(3, -1).run(1).state(3, 0)
                    .register(15, behind);
        }
        int[][] up = {{25, 0x51}, {66, 5, 0x51, 0}, {67, 5, 0x51, 0}};
        for (int[] program : up) {
            rig("trap of " + program[0]).program(program).with(1, GREATEST).status(IV).run(1).excepted(7, 1)
                    .look(1588, 1).look(1592, 128 + program.length);
        }
        rig("a branch that traps").program(65, 0x51, 20).with(1, LEAST).status(IV).run(1).excepted(7, 1).look(1592, 151);
        rig("V that stood before").program(1, 14, 3, 0x50, 1, 48, 0).status(IV | V).run(1).state(3, 0).run(1)
                .state(3, 0).hasStatus(IV);
        rig("V behind codes without trap").program(48, 0, 12, 0x50, 62, 0, 0, 59, 0).status(IV | V).run(4).state(3, 0)
                .hasStatus(IV | V);
    }

    private static void divisionByZero() {
        for (int iv = 0; iv <= IV; iv += IV) {
            rig("by 0").program(30, 0, 0x51).with(1, -8).status(iv | C | Z).run(1).excepted(7, 1).register(1, -8)
                    .look(1588, 2).look(1592, 131).look(1596, iv | N | V).hasInner(0, 1588).hasStatus(0);
            rig("once").program(30, 0, 0x51).bytes(1112, 1).status(iv).run(2).state(3, 1).register(15, 1113);
            rig("0 by 0").program(30, 0, 0x51).with(1, 0).status(iv).run(1).excepted(7, 1).look(1588, 2).look(1596, iv | Z | V);
            rig("by 0, to the third").program(37, 0, 0x51, 0x52).with(1, 8).with(2, 1).status(iv).run(1).excepted(7, 1)
                    .register(2, 8).look(1588, 2).look(1592, 132).look(1596, iv | V);
        }
    }

    public static void main(String[] args) {
        moves();
        comparisons();
        steps();
        sums();
        shifts();
        addresses();
        jumps();
        branches();
        counters();
        traps();
        divisionByZero();
        CHECK.end();
    }
}
