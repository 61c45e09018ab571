/** Promise 10: what the codes do, their conditions and their traps; a test for each sentence. */
public final class CodesTest {
    private static final Check CHECK = new Check();
    private static final int LEAST = Integer.MIN_VALUE;
    private static final int GREATEST = Integer.MAX_VALUE;
    private static final int C = 1, V = 2, Z = 4, N = 8, IV = 32;

    private static Rig rig(String name) {
        return new Rig(CHECK, name);
    }

    /** These conditions, and C as it was. */
    private static int cStays(int conditions) {
        return -conditions - 1;
    }

    private static int due(int conditions, int before) {
        return conditions < 0 ? -conditions - 1 | before & C : conditions;
    }

    /** A code with R1 behind it: what R1 is then, and the conditions, from all there can be before. */
    private static void one(int code, int a, int result, int conditions) {
        for (int before = 0; before < 16; before++) {
            rig(code + " of " + a).program(code, 0x51).with(1, a).status(before).passes()
                    .hasStatus(due(conditions, before)).register(1, result).register(15, 130);
        }
    }

    /** A code with R1 and R2 behind it: what R2 is then, and the conditions. */
    private static void two(int code, int a, int b, int result, int conditions) {
        for (int before = 0; before < 16; before++) {
            rig(code + " of " + a + " and " + b).program(code, 0x51, 0x52).with(1, a).with(2, b).status(before).passes()
                    .hasStatus(due(conditions, before)).register(1, a).register(2, result).register(15, 131);
        }
    }

    /** A code of 27 to 33 and that of 34 to 40 that goes with it; neither divides by 0. */
    private static void both(int code, int a, int b, int result, int conditions) {
        two(code, a, b, result, conditions);
        for (int before = 0; before < 16; before++) {
            rig(code + 7 + " of " + a + " and " + b).program(code + 7, 0x51, 0x52, 0x53).with(1, a).with(2, b)
                    .status(before).passes().hasStatus(due(conditions, before)).register(1, a).register(2, b)
                    .register(3, result).register(15, 132);
        }
    }

    /** A long is written, and its bytes are read: all 256 of them, without a sign. */
    private static void bytesWithoutSigns() {
        for (int v = 0; v < 256; v++) {
            rig("a byte of a register").program(15, 0x51, 0x52).with(1, 0xABCDEF00 | v).passes().register(2, v);
            rig("a byte in memory").program(15, 0x61, 0x52).with(1, 600).bytes(600, v, 0xEE).passes().register(2, v);
            rig("a byte behind").program(15, 0x8F, v, 0x52).passes().register(2, v);
            rig("a byte with its sign").program(16, 0x8F, v, 0x52).passes().register(2, v < 128 ? v : v - 256);
        }
    }

    private static void lowestFirst() {
        rig("written").program(14, 0x51, 0x62).with(1, 0x84030201).with(2, 601).passes().look(600, 0x03020100).look(604, 0x84);
        for (int i = 0; i < 4; i++) {
            rig("byte " + i).program(14, 0x51, 0x62, 15, 0xA2, i, 0x50).with(1, 0x84030201).with(2, 600).run(2)
                    .register(0, 0x84030201 >>> 8 * i & 255);
        }
        rig("read").program(14, 0x61, 0x50).with(1, 600).bytes(600, 1, 2, 3, 0x84).passes().register(0, 0x84030201);
    }

    /** N and Z alone, V and C 0: of those whose C does not stay. */
    private static void nAndZ() {
        int[] codes = {11, 17, 21, 22};
        for (int code : codes) {
            for (int before = 0; before < 16; before++) {
                int[] values = {-1, 0, 1};
                int[] due = {N, Z, 0};
                for (int i = 0; i < 3; i++) {
                    Rig rig = rig(code + " of " + values[i]).status(before).inner(8, values[i]).with(1, values[i]);
                    if (code == 11) {
                        rig.program(11, 8, 0x52);
                    } else {
                        rig.program(code, 0x51, 0x52);
                    }
                    rig.passes().hasStatus(due[i]);
                }
            }
        }
    }

    private static void halt() {
        for (int before = 0; before < 16; before++) {
            rig("halt").program(0).status(before | IV).run(1).state(0, 1).hasStatus(before | IV).register(14, 1600)
                    .register(15, 129).state(3, 0);
        }
    }

    private static void rsb() {
        int[] values = {0, -1, LEAST, GREATEST, 128};
        for (int v : values) {
            rig("rsb to " + v).program(5).longAt(1600, v).status(47).passes().register(15, v).register(14, 1604).hasStatus(47);
        }
        Rig.mapped(CHECK, "rsb that can't pop").bytes(128, 5).status(0x03C00000).with(14, 126).inner(0, Rig.SYSTEM + 128).run(1)
                .state(2, 5).look(1336, Rig.SYSTEM).look(1332, 128).look(1328, 0).hasInner(3, 126);
    }

    private static void goAndCall() {
        int[] distances = {0, 1, 127, -128, -2, -1};
        for (int d : distances) {
            rig("go " + d).program(48, d).status(47).passes().register(15, 130 + d).register(14, 1600).hasStatus(47);
            rig("call " + d).program(49, d).status(47).passes().register(15, 130 + d).register(14, 1596).look(1596, 130)
                    .hasStatus(47);
        }
    }

    private static void nop() {
        rig("nop").program(1).status(0x03C0002F).passes().register(15, 129).hasStatus(0x03C0002F);
    }

    private static void status() {
        int[] all = {0, 15, 47, 0x03C0002F, 0x01C00020, 0x02800000, 0x03000000};
        for (int s : all) {
            rig("status").program(12, 0x51).with(1, 77).status(s).passes().register(1, s).hasStatus(s);
        }
    }

    private static void moveByte() {
        two(13, 0x1FF, 0x12345678, 0x123456FF, cStays(N));
        two(13, 0x180, 0x12345678, 0x12345680, cStays(N));
        two(13, 0x100, 0x12345678, 0x12345600, cStays(Z));
        two(13, 0xFFFFFF7F, -1, 0xFFFFFF7F, cStays(0));
        rig("a byte in memory").program(13, 0x8F, 0xAB, 0x61).with(1, 601).longAt(600, -1).passes().look(600, 0xFFFFABFF);
    }

    private static void move() {
        two(14, LEAST, 4, LEAST, cStays(N));
        two(14, -1, 4, -1, cStays(N));
        two(14, 0, 4, 0, cStays(Z));
        two(14, 128, 4, 128, cStays(0));
        two(14, GREATEST, 4, GREATEST, cStays(0));
    }

    private static void widen() {
        two(15, 0x1FF, -1, 255, cStays(0));
        two(15, 0x80, -1, 128, cStays(0));
        two(15, 0x7F, -1, 127, cStays(0));
        two(15, 0x100, -1, 0, cStays(Z));
    }

    private static void signed() {
        two(16, 0x1FF, 3, -1, cStays(N));
        two(16, 0x180, 3, -128, cStays(N));
        two(16, 0x17F, 3, 127, cStays(0));
        two(16, 0x100, 3, 0, cStays(Z));
    }

    private static void narrow() {
        two(17, 127, -1, 0xFFFFFF7F, 0);
        two(17, 128, -1, 0xFFFFFF80, N | V);
        two(17, 255, 0, 0xFF, N | V);
        two(17, 256, -1, 0xFFFFFF00, Z | V);
        two(17, 0, -1, 0xFFFFFF00, Z);
        two(17, -1, 0, 0xFF, N);
        two(17, -128, 0, 0x80, N);
        two(17, -129, 0, 0x7F, V);
        two(17, LEAST, -1, 0xFFFFFF00, Z | V);
        two(17, GREATEST, 0, 0xFF, N | V);
        rig("narrow in memory").program(17, 0x52, 0x61).with(2, 0xAB).with(1, 601).longAt(600, -1).passes()
                .look(600, 0xFFFFABFF);
    }

    private static void negate() {
        two(18, 5, 0, -5, N | C);
        two(18, -5, 0, 5, C);
        two(18, 0, 3, 0, Z);
        two(18, LEAST, 3, LEAST, N | V | C);
        two(18, LEAST + 1, 3, GREATEST, C);
        two(18, GREATEST, 3, LEAST + 1, N | C);
        two(18, 1, 3, -1, N | C);
    }

    private static void not() {
        two(19, 0, 3, -1, cStays(N));
        two(19, -1, 3, 0, cStays(Z));
        two(19, LEAST, 3, GREATEST, cStays(0));
        two(19, GREATEST, 3, LEAST, cStays(N));
    }

    private static void clear() {
        one(20, 77, 0, cStays(Z));
        one(20, 0, 0, cStays(Z));
        rig("clear in memory").program(20, 0x61).with(1, 600).longAt(598, -1).longAt(602, -1).passes()
                .look(600, 0).look(596, 0xFFFF0000).look(604, 0xFFFF);
    }

    private static void test() {
        one(21, 0, 0, Z);
        one(21, -1, -1, N);
        one(21, LEAST, LEAST, N);
        one(21, GREATEST, GREATEST, 0);
        one(21, 128, 128, 0);
        one(22, 0x100, 0x100, Z);
        one(22, 0x180, 0x180, N);
        one(22, 0xFF, 0xFF, N);
        one(22, 0xFF7F, 0xFF7F, 0);
        one(22, 1, 1, 0);
    }

    private static void compare() {
        two(23, 1, 2, 2, N | C);
        two(23, 2, 1, 1, 0);
        two(23, 7, 7, 7, Z);
        two(23, 0, 0, 0, Z);
        two(23, -1, 1, 1, N);
        two(23, 1, -1, -1, C);
        two(23, -2, -1, -1, N | C);
        two(23, -1, -2, -2, 0);
        two(23, -1, 0, 0, N);
        two(23, 0, -1, -1, C);
        two(23, LEAST, GREATEST, GREATEST, N);
        two(23, GREATEST, LEAST, LEAST, C);
        two(23, LEAST, LEAST, LEAST, Z);
    }

    private static void compareBytes() {
        two(24, 0x101, 0x202, 0x202, N | C);
        two(24, 0x202, 0x301, 0x301, 0);
        two(24, 0x107, 0x207, 0x207, Z);
        two(24, 0xFF, 0x01, 0x01, N);
        two(24, 0x01, 0xFF, 0xFF, C);
        two(24, 0x80, 0x7F, 0x7F, N);
        two(24, 0x7F, 0x80, 0x80, C);
        two(24, 0x80, 0xFF, 0xFF, N | C);
        two(24, 0xFF, 0x80, 0x80, 0);
        two(24, 0x80, 0x80, 0x80, Z);
        two(24, 0xFF, 0x00, 0x00, N);
        two(24, 0x00, 0xFF, 0xFF, C);
    }

    private static void increment() {
        one(25, 5, 6, 0);
        one(25, -1, 0, Z | C);
        one(25, GREATEST, LEAST, N | V);
        one(25, GREATEST - 1, GREATEST, 0);
        one(25, LEAST, LEAST + 1, N);
        one(25, -2, -1, N);
        one(25, 0, 1, 0);
        one(26, 5, 4, 0);
        one(26, 1, 0, Z);
        one(26, 0, -1, N | C);
        one(26, LEAST, GREATEST, V);
        one(26, LEAST + 1, LEAST, N);
        one(26, GREATEST, GREATEST - 1, 0);
        one(26, -1, -2, N);
        rig("increment in memory").program(25, 0x61).with(1, 600).longAt(600, 255).passes().look(600, 256);
        rig("decrement in memory").program(26, 0x61).with(1, 600).longAt(600, 256).passes().look(600, 255);
    }

    private static void add() {
        both(27, 3, 5, 8, 0);
        both(27, 0, 0, 0, Z);
        both(27, -5, 5, 0, Z | C);
        both(27, -1, 0, -1, N);
        both(27, -1, -1, -2, N | C);
        both(27, 1, GREATEST, LEAST, N | V);
        both(27, 0, GREATEST, GREATEST, 0);
        both(27, GREATEST, GREATEST, -2, N | V);
        both(27, LEAST, LEAST, 0, Z | V | C);
        both(27, LEAST, -1, GREATEST, V | C);
        both(27, LEAST, GREATEST, -1, N);
        both(27, 1, -1, 0, Z | C);
        both(27, LEAST, 0, LEAST, N);
    }

    private static void subtract() {
        both(28, 3, 5, 2, 0);
        both(28, 5, 3, -2, N | C);
        both(28, 5, 5, 0, Z);
        both(28, 0, 0, 0, Z);
        both(28, 1, 0, -1, N | C);
        both(28, 1, LEAST, GREATEST, V);
        both(28, 0, LEAST, LEAST, N);
        both(28, -1, GREATEST, LEAST, N | V | C);
        both(28, LEAST, 0, LEAST, N | V | C);
        both(28, LEAST, -1, GREATEST, 0);
        both(28, LEAST, LEAST, 0, Z);
        both(28, 1, -1, -2, N);
        both(28, -1, 0, 1, C);
        both(28, -1, -1, 0, Z);
    }

    private static void multiply() {
        both(29, 6, -7, -42, N);
        both(29, 0, LEAST, 0, Z);
        both(29, 1, LEAST, LEAST, N);
        both(29, -1, LEAST, LEAST, N | V);
        both(29, -1, GREATEST, LEAST + 1, N);
        both(29, 2, 1 << 30, LEAST, N | V);
        both(29, -2, 1 << 30, LEAST, N);
        both(29, 65536, 65536, 0, Z | V);
        both(29, 65536, 32768, LEAST, N | V);
        both(29, 65536, -32768, LEAST, N);
        both(29, LEAST, LEAST, 0, Z | V);
        both(29, 46341, 46341, 46341 * 46341, N | V);
        both(29, 46340, 46340, 46340 * 46340, 0);
        both(29, GREATEST, GREATEST, 1, V);
    }

    private static void divide() {
        both(30, 2, 7, 3, 0);
        both(30, 2, -7, -3, N);
        both(30, -2, 7, -3, N);
        both(30, -2, -7, 3, 0);
        both(30, 8, 7, 0, Z);
        both(30, 8, -7, 0, Z);
        both(30, 5, 0, 0, Z);
        both(30, 1, LEAST, LEAST, N);
        both(30, -1, GREATEST, -GREATEST, N);
        both(30, -1, LEAST + 1, GREATEST, 0);
        both(30, LEAST, LEAST, 1, 0);
        both(30, LEAST, GREATEST, 0, Z);
        both(30, GREATEST, LEAST, -1, N);
        both(30, 2, LEAST, LEAST / 2, N);
    }

    private static void leastByMinus1() {
        both(30, -1, LEAST, LEAST, N | V);
        int[][] programs = {{30, 0x53, 0x51}, {37, 0x53, 0x51, 0x52}};
        for (int[] program : programs) {
            rig("trap 1, not 2").program(program).with(1, LEAST).with(3, -1).status(IV | C).run(1).excepted(7, 1)
                    .look(1588, 1).look(1592, 128 + program.length).look(1596, IV | N | V).register(1, LEAST)
                    .register(2, program[0] == 37 ? LEAST : 0);
            rig("no trap").program(program).with(1, LEAST).with(3, -1).status(C).passes().hasStatus(N | V);
        }
        rig("in memory").program(30, 0x53, 0x61).with(1, 600).longAt(600, LEAST).with(3, -1).passes().look(600, LEAST);
    }

    private static void byZero() {
        for (int iv = 0; iv <= IV; iv += IV) {
            int[][] all = {{-8, N}, {LEAST, N}, {0, Z}, {8, 0}, {GREATEST, 0}};
            for (int[] a : all) {
                rig("by 0").program(30, 0, 0x51).with(1, a[0]).status(iv | C).run(1).excepted(7, 1).register(1, a[0])
                        .look(1588, 2).look(1592, 131).look(1596, iv | V | a[1]).hasInner(0, 1588).hasStatus(0);
                rig("by 0, to the third").program(37, 0, 0x51, 0x52).with(1, a[0]).with(2, 1).status(iv | C).run(1)
                        .excepted(7, 1).register(1, a[0]).register(2, a[0]).look(1588, 2).look(1592, 132)
                        .look(1596, iv | V | a[1]);
            }
            rig("by 0 in memory").program(30, 0x62, 0x61).with(1, 600).with(2, 700).longAt(600, 77).status(iv).run(1)
                    .excepted(7, 1).look(600, 77).look(1588, 2);
        }
    }

    private static void trapOf0() {
        for (int iv = 0; iv <= IV; iv += IV) {
            int[][] programs = {{30, 0, 0x51}, {30, 0x52, 0x51}, {37, 0, 0x51, 0x53}, {37, 0x52, 0x51, 0x51}};
            for (int[] program : programs) {
                rig("trap 2").program(program).with(1, LEAST).status(iv).run(1).excepted(7, 1).look(1588, 2)
                        .look(1592, 128 + program.length).hasInner(0, 1588).hasStatus(0);
            }
            rig("one trap alone").program(30, 0, 0x51).bytes(1112, 1).status(iv).run(2).state(3, 1).register(15, 1113);
            rig("what moved stays so").program(30, 0x81, 0x71).with(1, 600).status(iv).run(1).excepted(7, 1)
                    .register(1, 600);
        }
    }

    private static void bits() {
        both(31, 0xF0, 0x0F, 0xFF, cStays(0));
        both(31, LEAST, 1, LEAST + 1, cStays(N));
        both(31, 0, 0, 0, cStays(Z));
        both(31, 0, -1, -1, cStays(N));
        both(32, 0xF0, 0xFF, 0x0F, cStays(0));
        both(32, -1, 77, 0, cStays(Z));
        both(32, 1, -1, -2, cStays(N));
        both(32, 0, GREATEST, GREATEST, cStays(0));
        both(33, 0xF0, 0xFF, 0x0F, cStays(0));
        both(33, 77, 77, 0, cStays(Z));
        both(33, 1, -1, -2, cStays(N));
        both(33, -1, LEAST, GREATEST, cStays(0));
    }

    private static void toTheThird() {
        for (int code = 34; code <= 40; code++) {
            int[] due = {9, 3, 18, 2, 7, 4, 5};
            rig(code + ", the first and second stay").program(code, 3, 0x52, 0x61).with(1, 600).longAt(600, -1)
                    .with(2, 6).passes().register(2, 6).register(1, 600).look(600, due[code - 34]);
            rig(code + ", over the second").program(code, 3, 0x52, 0x52).with(2, 6).passes().register(2, due[code - 34]);
            rig(code + ", over the first").program(code, 0x51, 0x52, 0x51).with(1, 3).with(2, 6).passes()
                    .register(1, due[code - 34]).register(2, 6);
        }
    }

    private static void shifted(int by, int v, int result, int conditions) {
        for (int before = 0; before < 16; before++) {
            rig("shift " + v + " by " + by).program(41, 0x8F, by, 0x51, 0x52).with(1, v).status(before).passes()
                    .register(1, v).register(2, result).hasStatus(conditions).register(15, 133);
        }
    }

    private static void shiftLeft() {
        shifted(0, -5, -5, N);
        shifted(0, 0, 0, Z);
        shifted(0, LEAST, LEAST, N);
        shifted(1, 1 << 30, LEAST, N | V);
        shifted(1, -1 << 30, LEAST, N);
        shifted(1, (1 << 30) - 1, GREATEST - 1, 0);
        shifted(1, LEAST, 0, Z | V);
        shifted(4, 71, 1136, 0);
        shifted(30, 1, 1 << 30, 0);
        shifted(30, 2, LEAST, N | V);
        shifted(30, -2, LEAST, N);
        shifted(31, 1, LEAST, N | V);
        shifted(31, -1, LEAST, N);
        shifted(31, 2, 0, Z | V);
        shifted(31, -2, 0, Z | V);
        shifted(31, 0, 0, Z);
    }

    private static void shiftAbove31() {
        int[] counts = {32, 33, 63, 64, 65, 96, 126, 127};
        for (int by : counts) {
            shifted(by, 1, 0, Z | V);
            shifted(by, -1, 0, Z | V);
            shifted(by, LEAST, 0, Z | V);
            shifted(by, 0, 0, Z);
        }
    }

    private static void shiftRight() {
        shifted(-1, 7, 3, 0);
        shifted(-1, -7, -4, N);
        shifted(-1, 1, 0, Z);
        shifted(-1, -1, -1, N);
        shifted(-2, -35, -9, N);
        shifted(-30, LEAST, -2, N);
        shifted(-30, GREATEST, 1, 0);
        shifted(-31, LEAST, -1, N);
        shifted(-31, GREATEST, 0, Z);
    }

    private static void shiftBelowMinus31() {
        int[] counts = {-32, -33, -63, -64, -65, -96, -127, -128};
        for (int by : counts) {
            shifted(by, LEAST, -1, N);
            shifted(by, -1, -1, N);
            shifted(by, GREATEST, 0, Z);
            shifted(by, 0, 0, Z);
        }
        // The count is a byte: the others of its register mean nothing.
        rig("count in a register").program(41, 0x53, 0x51, 0x52).with(3, 0x12345602).with(1, 5).passes().register(2, 20);
        rig("count in a register, below 0").program(41, 0x53, 0x51, 0x52).with(3, 0xFF).with(1, 5).passes().register(2, 2);
        rig("a literal count").program(41, 63, 0x51, 0x52).with(1, 5).passes().register(2, 0).hasStatus(Z | V);
    }

    private static void addresses() {
        for (int before = 0; before < 16; before++) {
            int c = before & C;
            rig("address 0").program(42, 0xA1, 4, 0x50).with(1, -4).status(before).passes().register(0, 0).hasStatus(c | Z);
            rig("the least").program(42, 0x61, 0x50).with(1, LEAST).status(before).passes().register(0, LEAST).hasStatus(c | N);
            rig("the greatest").program(43, 0x61, 0x50).with(1, GREATEST).status(before).passes().register(0, GREATEST)
                    .hasStatus(c);
            rig("byte address 0").program(43, 0xA1, 4, 0x50).with(1, -4).status(before).passes().register(0, 0)
                    .hasStatus(c | Z);
        }
        Rig.mapped(CHECK, "of what isn't there").bytes(128, 42, 0x61, 0x50).with(1, -1).passes().register(0, -1);
    }

    private static void pushes() {
        for (int before = 0; before < 16; before++) {
            int c = before & C;
            rig("push").program(44, 0x51).with(1, -9).status(before).passes().register(14, 1596).look(1596, -9).hasStatus(c | N);
            rig("push 0").program(44, 0).status(before).longAt(1596, -1).passes().look(1596, 0).hasStatus(c | Z);
            rig("push 63").program(44, 63).status(before).passes().look(1596, 63).hasStatus(c);
            rig("push address").program(45, 0x42, 0x61).with(1, 600).with(2, 2).status(before).passes().register(14, 1596)
                    .look(1596, 608).hasStatus(c);
            rig("push address 0").program(45, 0x61).with(1, 0).status(before).longAt(1596, -1).passes().look(1596, 0)
                    .hasStatus(c | Z);
            rig("push the least address").program(45, 0x61).with(1, LEAST).status(before).passes().look(1596, LEAST)
                    .hasStatus(c | N);
        }
    }

    private static void pushAndPop() {
        rig("the stack pointer itself").program(44, 0x5E).passes().look(1596, 1600).register(14, 1596);
        rig("what is popped").program(44, 0x8E).longAt(1600, 8).passes().look(1600, 8).register(14, 1600);
        rig("below").program(44, 0x7E).longAt(1596, 8).passes().look(1592, 8).register(14, 1592);
        rig("at 0").program(44, 9).with(14, 0).passes().look(2044, 9).register(14, -4);
        rig("at 3").program(44, 9).with(14, 3).passes().look(2047, 9).register(14, -1);
        rig("popped at the end").program(5).with(14, -2).bytes(2046, 0x2C, 1).bytes(0, 0, 0).passes().register(15, 300)
                .register(14, 2);
        for (int mode = 0; mode < 4; mode++) {
            rig("by the mode's stack").program(44, 9).status(mode << 24).passes().hasInner(mode, Rig.TOPS[mode] - 4)
                    .look(Rig.TOPS[mode] - 4, 9).hasInner((mode + 1) % 4, Rig.TOPS[(mode + 1) % 4]);
        }
    }

    private static void jumps() {
        rig("jump").program(46, 0xA1, 4).with(1, 700).status(47).passes().register(15, 704).hasStatus(47).register(14, 1600);
        rig("jump to the greatest").program(46, 0x61).with(1, GREATEST).passes().register(15, GREATEST);
        rig("jump, indexed by bytes").program(46, 0x42, 0x61).with(1, 700).with(2, 3).passes().register(15, 703);
        Rig.mapped(CHECK, "jump to what isn't there").bytes(128, 46, 0x61).with(1, -1).passes().register(15, -1);
    }

    private static void calls() {
        rig("call and back").program(47, 0x61).with(1, 700).status(47).passes().register(15, 700).look(1596, 130)
                .register(14, 1596).hasStatus(47).bytes(700, 5).passes().register(15, 130).register(14, 1600).hasStatus(47);
        rig("call by the stack").program(47, 0x8E).with(14, 700).passes().register(15, 700).register(14, 697).look(697, 130);
        rig("call near").program(49, 0xFC).status(47).passes().register(15, 126).look(1596, 130).register(14, 1596).hasStatus(47);
        rig("call near, farthest").program(49, 0x80).passes().register(15, 2).look(1596, 130);
        Rig.mapped(CHECK, "call that can't push").bytes(128, 47, 0x61).with(1, 600).status(0x03C00000).with(14, 132)
                .inner(0, Rig.SYSTEM + 128).run(1).state(2, 5).look(1336, Rig.SYSTEM).look(1332, 128).look(1328, 4)
                .hasInner(3, 132);
        Rig.mapped(CHECK, "a near call that can't push").bytes(128, 49, 5).status(0x03C00000).with(14, 132)
                .inner(0, Rig.SYSTEM + 128).run(1).state(2, 5).look(1336, Rig.SYSTEM).look(1332, 128).look(1328, 4);
    }

    private static void branches() {
        for (int s = 0; s < 16; s++) {
            boolean n = (s & N) != 0;
            boolean z = (s & Z) != 0;
            boolean v = (s & V) != 0;
            boolean c = (s & C) != 0;
            boolean[] taken = {!z, z, !n && !z, n || z, !n, n, !c && !z, c || z, !v, v, !c, c};
            for (int k = 0; k < taken.length; k++) {
                rig("branch " + (50 + k) + " of " + s).program(50 + k, 0xF0).status(s | IV).passes()
                        .register(15, taken[k] ? 130 - 16 : 130).hasStatus(s | IV);
            }
        }
    }

    private static void branchesByBit() {
        int[] values = {0, 1, 2, 3, -1, -2, LEAST, GREATEST};
        for (int a : values) {
            int due = (a & 1) == 1 ? 136 : 131;
            rig("62 of " + a).program(62, 0x51, 5).with(1, a).status(47).passes().register(15, due).hasStatus(47);
            rig("63 of " + a).program(63, 0x51, 5).with(1, a).status(0).passes().register(15, 267 - due).hasStatus(0);
            rig("62 back, of " + a).program(62, 0x51, -100).with(1, a).passes().register(15, due == 136 ? 31 : 131);
            rig("63 far, of " + a).program(63, 0x51, 127).with(1, a).passes().register(15, due == 136 ? 131 : 258);
        }
    }

    private static void counter(int code, int bound, int v, int result, int conditions, boolean taken) {
        for (int before = 0; before < 16; before++) {
            Rig rig = rig(code + " of " + v + " to " + bound);
            if (code < 66) {
                rig.program(code, 0x52, 0xE0);
            } else {
                rig.program(code, 0x51, 0x52, 0xE0);
            }
            int behind = code < 66 ? 131 : 132;
            rig.with(1, bound).with(2, v).status(before).passes().register(1, bound).register(2, result)
                    .hasStatus(conditions | before & C).register(15, taken ? behind - 32 : behind);
        }
    }

    private static void fallsAbove0() {
        counter(64, 0, 2, 1, 0, true);
        counter(64, 0, 1, 0, Z, false);
        counter(64, 0, 0, -1, N, false);
        counter(64, 0, LEAST, GREATEST, V, true);
        counter(64, 0, LEAST + 1, LEAST, N, false);
        counter(64, 0, GREATEST, GREATEST - 1, 0, true);
        rig("64 in memory").program(64, 0x81, 4).with(1, 600).longAt(600, 9).passes().look(600, 8).register(1, 604)
                .register(15, 135);
    }

    private static void fallsNotBelow0() {
        counter(65, 0, 2, 1, 0, true);
        counter(65, 0, 1, 0, Z, true);
        counter(65, 0, 0, -1, N, false);
        counter(65, 0, LEAST, GREATEST, V, true);
        counter(65, 0, LEAST + 1, LEAST, N, false);
    }

    private static void growsToLess() {
        counter(66, 5, 3, 4, 0, true);
        counter(66, 5, 4, 5, 0, false);
        counter(66, 5, 5, 6, 0, false);
        counter(66, 5, -1, 0, Z, true);
        counter(66, 5, GREATEST, LEAST, N | V, true);
        counter(66, LEAST, GREATEST, LEAST, N | V, false);
        counter(66, GREATEST, GREATEST - 1, GREATEST, 0, false);
        counter(66, GREATEST, GREATEST - 2, GREATEST - 1, 0, true);
        counter(66, -5, -9, -8, N, true);
        counter(66, -1, 0, 1, 0, false);
    }

    private static void growsToTheSame() {
        counter(67, 5, 4, 5, 0, true);
        counter(67, 5, 5, 6, 0, false);
        counter(67, 5, 3, 4, 0, true);
        counter(67, LEAST, GREATEST, LEAST, N | V, true);
        counter(67, GREATEST, GREATEST - 1, GREATEST, 0, true);
        counter(67, 0, -1, 0, Z, true);
        counter(67, -1, -1, 0, Z, false);
        rig("67 in memory").program(67, 63, 0x81, 4).with(1, 600).longAt(600, 62).passes().look(600, 63).register(1, 604)
                .register(15, 136);
    }

    private static void trapsOfV() {
        rig("add").program(27, 1, 0x51).with(1, GREATEST).status(0x03C00000 | IV | C).run(1).excepted(7, 1)
                .hasStatus(0x00C00000).register(1, LEAST).hasInner(0, 1588).look(1588, 1).look(1592, 131)
                .look(1596, 0x03C00000 | IV | N | V).hasInner(3, 1300);
        int[][] all = {
            {17, 0x51, 0x52}, {18, 0x51, 0x52}, {26, 0x51}, {27, 0x51, 0x51}, {28, 1, 0x51}, {29, 2, 0x51},
            {30, 0x53, 0x51}, {34, 0x51, 0x51, 0x52}, {35, 1, 0x51, 0x52}, {36, 2, 0x51, 0x52},
            {37, 0x53, 0x51, 0x52}, {41, 1, 0x51, 0x52}, {64, 0x51, 0}, {65, 0x51, 0}
        };
        for (int[] program : all) {
            int behind = 128 + program.length;
            rig("trap of " + program[0]).program(program).with(1, LEAST).with(3, -1).status(IV).run(1).excepted(7, 1)
                    .look(1588, 1).look(1592, behind);
            rig("no trap of " + program[0]).program(program).with(1, LEAST).with(3, -1).passes().register(15, behind);
        }
        int[][] up = {{25, 0x51}, {66, 5, 0x51, 0}, {67, 5, 0x51, 0}};
        for (int[] program : up) {
            rig("trap of " + program[0]).program(program).with(1, GREATEST).status(IV).run(1).excepted(7, 1)
                    .look(1588, 1).look(1592, 128 + program.length);
            rig("no trap of " + program[0]).program(program).with(1, GREATEST).passes();
        }
        rig("a branch that traps").program(65, 0x51, 20).with(1, LEAST).status(IV).run(1).excepted(7, 1).look(1592, 151);
        rig("a write that traps").program(25, 0x61).with(1, 600).longAt(600, GREATEST).status(IV).run(1).excepted(7, 1)
                .look(600, LEAST);
    }

    /** V stands from before, or is brought by a code that isn't told; IV is set. */
    private static void noTrapOfOthers() {
        int[][] keep = {{1}, {5}, {10, 5, 8}, {12, 0x50}, {46, 0x61}, {47, 0x61}, {48, 0}, {49, 0}, {62, 0, 0}, {63, 0, 0}};
        for (int[] program : keep) {
            rig("V stays behind " + program[0]).program(program).status(IV | V).passes().hasStatus(IV | V);
        }
        for (int code = 50; code <= 61; code++) {
            rig("V stays behind " + code).program(code, 0).status(IV | V).passes().hasStatus(IV | V);
        }
        rig("V by REI").program(2).longs(1600, 700, IV | V).passes().hasStatus(IV | V);
        rig("V by RET").program(4).with(13, 600).longAt(604, IV | V).passes().hasStatus(IV | V);
        int[][] clear = {{11, 8, 0x50}, {13, 1, 0x50}, {14, 1, 0x50}, {15, 1, 0x50}, {16, 1, 0x50}, {17, 1, 0x50}, {18, 1, 0x50},
            {19, 1, 0x50}, {20, 0x50}, {21, 1}, {22, 1}, {23, 1, 2}, {24, 1, 2}, {25, 0x50}, {27, 1, 0x50}, {30, 1, 0x50},
            {31, 1, 0x50}, {32, 1, 0x50}, {33, 1, 0x50}, {38, 1, 1, 0x50}, {39, 1, 1, 0x50}, {40, 1, 1, 0x50}, {41, 1, 1, 0x50},
            {42, 0x61, 0x50}, {43, 0x61, 0x50}, {44, 1}, {45, 0x61}, {64, 0x50, 0}, {66, 1, 0x50, 0}, {69, 0, 1, 0x61}};
        for (int[] program : clear) {
            rig("V is 0 behind " + program[0]).program(program).with(0, 9).status(IV | V).passes();
        }
        rig("a CHANGE with V").program(6, 1).status(IV | V).run(1).excepted(8, 1).look(1596, IV | V);
    }

    public static void main(String[] args) {
        Words words = new Words(CHECK);
        words.hold("bytes are taken without a sign where nothing is said", CodesTest::bytesWithoutSigns);
        words.hold("a LONG is four bytes, the lowest first", CodesTest::lowestFirst);
        words.hold("n and z of a result: N if it is below 0 (of a byte: its bit 7), Z if it is 0; V and C are 0, or as told",
                CodesTest::nAndZ);
        words.hold("0 HALT", CodesTest::halt);
        words.hold("5 RSB: PC is popped", CodesTest::rsb);
        words.hold("48 GO d 49 CALL d", CodesTest::goAndCall);
        words.hold("1 NOP", CodesTest::nop);
        words.hold("12 STATUS wL: the status", CodesTest::status);
        words.hold("13 MOVE BYTE rB wB", CodesTest::moveByte);
        words.hold("14 MOVE rL wL", CodesTest::move);
        words.hold("15 WIDEN rB wL", CodesTest::widen);
        words.hold("16 SIGNED rB wL: with its sign", CodesTest::signed);
        words.hold("17 NARROW rL wB: n z of the byte, V if it with its sign isn't the long", CodesTest::narrow);
        words.hold("(18: V if it is the least int; C if it isn't 0)", CodesTest::negate);
        words.hold("19 NOT rL wL: n z, C stays", CodesTest::not);
        words.hold("20 CLEAR wL: n z, C stays", CodesTest::clear);
        words.hold("21 TEST rL, 22 TEST BYTE rB: n z", CodesTest::test);
        words.hold("N if the first is less, Z if they are the same, C if it is less without signs", CodesTest::compare);
        words.hold("24 COMPARE BYTES rB rB (with their signs)", CodesTest::compareBytes);
        words.hold("25 INCREMENT mL, 26 DECREMENT mL: as by 27 and 28 with 1", CodesTest::increment);
        words.hold("27 ADD rL mL: second + first: n z, V if that isn't so without wrapping, C if not so without signs",
                CodesTest::add);
        words.hold("(C if the second is less than the first without signs)", CodesTest::subtract);
        words.hold("29 MULTIPLY rL mL: n z, V likewise", CodesTest::multiply);
        words.hold("30 DIVIDE rL mL: second / first, towards 0: n z", CodesTest::divide);
        words.hold("the least int by -1: likewise (no trap 2)", CodesTest::leastByMinus1);
        words.hold("by 0: the second stays, V, and n z of it", CodesTest::byZero);
        words.hold("when it divides by 0, with 2 (this goes ahead, whatever IV is)", CodesTest::trapOf0);
        words.hold("31 SET BITS rL mL: second | first, 32 CLEAR BITS: second & ~first, 33 DIFFER: ^: n z, C stays",
                CodesTest::bits);
        words.hold("34 .. 40: as 27 .. 33, but rL rL wL: the result goes to the third", CodesTest::toTheThird);
        words.hold("V if it isn't the second times a power of 2 (to the left)", CodesTest::shiftLeft);
        words.hold("(above 31: 0;", CodesTest::shiftAbove31);
        words.hold("to the right with the sign by its opposite", CodesTest::shiftRight);
        words.hold("below -31: all sign)", CodesTest::shiftBelowMinus31);
        words.hold("42 ADDRESS aL wL, 43 BYTE ADDRESS aB wL: the address: n z, C stays", CodesTest::addresses);
        words.hold("44 PUSH rL, 45 PUSH ADDRESS aL: n z of it, C stays; pushed", CodesTest::pushes);
        words.hold("To PUSH a long: it is written at R14 - 4, and R14 falls by 4; to POP one: it is read at R14, which grows by 4.",
                CodesTest::pushAndPop);
        words.hold("46 JUMP aB", CodesTest::jumps);
        words.hold("47 CALL aB: PC is pushed, and becomes it", CodesTest::calls);
        words.hold("neither N nor Z; N or Z; not N; N; neither C nor Z; C or Z; not V; V; not C; C", CodesTest::branches);
        words.hold("62 rL d if bit 0 is set 63 rL d if it isn't", CodesTest::branchesByBit);
        words.hold("64 mL d: falls by 1, if it is above 0 then", CodesTest::fallsAbove0);
        words.hold("65: if it isn't below 0", CodesTest::fallsNotBelow0);
        words.hold("66 rL mL d: the second grows by 1, if it is less than the first then", CodesTest::growsToLess);
        words.hold("67: or the same.", CodesTest::growsToTheSame);
        words.hold("when IV is set and V was set by codes 17 .. 41 or 64 .. 67, with 1", CodesTest::trapsOfV);
        words.hold("V was set by codes 17 .. 41 or 64 .. 67", CodesTest::noTrapOfOthers);
        CHECK.end();
    }
}
