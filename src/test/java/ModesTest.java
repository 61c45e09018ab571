/** Promise 10: modes, REI, CHANGE, inner registers by codes, and exceptions. */
public final class ModesTest {
    private static final Check CHECK = new Check();

    private static Rig rig(String name) {
        return new Rig(CHECK, name);
    }

    private static int status(int mode, int previous, int rest) {
        return mode << 24 | previous << 22 | rest;
    }

    private static void changes() {
        for (int from = 0; from < 4; from++) {
            for (int to = 0; to < 4; to++) {
                int mode = Math.min(from, to);
                int top = Rig.TOPS[mode];
                Rig rig = rig("change from " + from + " to " + to).program(6 + to, 0x81).with(1, 600).longAt(600, -9)
                        .status(status(from, 1, 47));
                rig.run(1).excepted(8 + to, 1).hasStatus(status(mode, from, 0)).register(14, top - 12)
                        .look(top - 4, status(from, 1, 47)).look(top - 8, 130).look(top - 12, -9).register(1, 604);
            }
        }
        rig("a popped operand").program(8, 0x8E).longAt(1300, 7).status(status(3, 3, 0)).run(1).excepted(10, 1)
                .hasInner(3, 1304).hasInner(2, 1388).look(1388, 7);
        rig("a change that faults").program(8, 0xC1).status(status(3, 3, 0)).faults(3).hasStatus(status(0, 3, 0));
    }

    private static void rei() {
        for (int from = 0; from < 4; from++) {
            for (int to = 0; to < 4; to++) {
                for (int previous = 0; previous < 4; previous++) {
                    Rig rig = rig("rei from " + from + " to " + to + ", " + previous).program(2).status(status(from, 3, 5));
                    int top = Rig.TOPS[from];
                    rig.longAt(top, 777).longAt(top + 4, status(to, previous, 42));
                    if (to < from || previous < to) {
                        rig.faults(2).hasInner(from, from == 0 ? top - 8 : top);
                    } else {
                        rig.run(1).register(15, 777).hasStatus(status(to, previous, 42)).hasInner(from, top + 8).state(3, 0);
                        rig.register(14, to == from ? top + 8 : Rig.TOPS[to]);
                    }
                }
            }
        }
        for (int b = 0; b < 32; b++) {
            if (b > 5 && b < 22 || b == 4 || b > 25) {
                rig("rei with bit " + b).program(2).longAt(1600, 777).longAt(1604, 1 << b).faults(2);
            }
        }
    }

    private static void privileged() {
        int[] codes = {0, 10, 11};
        for (int code : codes) {
            for (int mode = 1; mode < 4; mode++) {
                rig("code " + code + " in mode " + mode).program(code, 0xC0, 0xC0).status(status(mode, 3, 1)).faults(1)
                        .hasStatus(status(0, mode, 0)).state(0, 0);
            }
        }
        for (int code = 71; code < 256; code++) {
            rig("code " + code).program(code, 0xC0, 0xC0).faults(1);
        }
        rig("break").program(3).status(status(2, 2, 47)).faults(6).hasStatus(status(0, 2, 0));
        rig("the last code is one").program(70, 0, 0, 0x61).run(1).state(3, 0);
    }

    private static void inners() {
        int[] numbers = {0, 1, 2, 3, 8, 9, 10, 11, 12, 13, 17};
        for (int k : numbers) {
            rig("put inner " + k).program(10, 0x51, k).with(1, -5).status(47).run(1).hasInner(k, -5).hasStatus(47).state(3, 0);
            rig("get inner " + k).program(11, k, 0x51).inner(k, -5).status(47).run(1).register(1, -5).hasStatus(32 | 8);
            rig("get 0 of " + k).program(11, k, 0x51).inner(k, 0).with(1, 4).status(47).run(1).register(1, 0).hasStatus(32 | 4);
            rig("get 3 of " + k).program(11, k, 0x51).inner(k, 3).status(47).run(1).register(1, 3).hasStatus(32);
        }
        for (int k = -2; k < 70; k++) {
            boolean none = k < 0 || k > 3 && k < 8 || k > 13 && k != 17 && k != 56;
            if (none) {
                rig("put inner " + k).program(10, 0, 0x51).with(1, k).status(5).faults(2);
                rig("get inner " + k).program(11, 0x51, 0x72).with(1, k).with(2, 600).longAt(596, 3).faults(2).look(596, 3);
            }
        }
        rig("put the stack pointer").program(10, 0x51, 0).with(1, 800).run(1).register(14, 800);
        rig("get the stack pointer as it is then").program(11, 0, 0x7E).run(1).look(1596, 1596);
        rig("MAPPED to 0").program(10, 0, 0x8F, 56, 0, 0, 0).run(1).hasInner(56, 0).state(3, 0);
        rig("MAPPED to 1").program(10, 1, 0x8F, 56, 0, 0, 0).run(1).hasInner(56, 1).state(3, 0).reach(0, false, 0, -51);
        rig("MAPPED to 2").program(10, 2, 0x8F, 56, 0, 0, 0).faults(2).hasInner(56, 0);
        rig("MAPPED to -1").program(10, 0x51, 0x8F, 56, 0, 0, 0).with(1, -1).faults(2).hasInner(56, 0);
        rig("get MAPPED").program(11, 0x8F, 56, 0, 0, 0, 0x51).with(1, 3).run(1).register(1, 0);
        rig("operands before numbers").program(11, 0x51, 5).with(1, 99).faults(3);
    }

    private static void exceptions() {
        // Vectors are read in storage, mod its size, behind the pushes.
        rig("vectors round the end").program(3).inner(17, -8).longAt(16, 4321).run(1).register(15, 4321);
        rig("a vector that is pushed upon").program(3).inner(0, 1944 + 8).status(47).run(1).register(15, 128);
        rig("PC may be any number").program(3).longAt(Rig.VECTORS + 24, -3).run(1).register(15, -3);
        // The handler returns to the instruction, which is begun once more.
        Rig rig = rig("once more").program(14, 0x81, 3).bytes(1048, 14, 0x8F, 14, 0x52, 0, 0, 0x9F, 128, 0, 0, 0);
        rig.bytes(1048, 13, 0x8F, 0x52, 0x9F, 130, 0, 0, 0, 2);
        rig.with(1, 600).longAt(600, 66).status(status(3, 3, 2)).faults(3).run(2).hasStatus(status(3, 3, 2)).register(15, 128)
                .run(1).register(2, 66).register(1, 604).hasInner(0, 1600).state(1, 4).state(3, 1);
    }

    /** Pages by which the stack of mode 0 can't be written. */
    private static Rig deadly(String name) {
        Rig rig = rig(name).inner(12, 1024).inner(13, 3).longAt(1024, 0xF8000002).longAt(1028, 0x78000003);
        return rig.longAt(1032, 0xF8000005).with(15, 0x80000000).inner(0, 0x80000080).inner(3, 0x800000C0).inner(56, 1);
    }

    private static void death() {
        deadly("dead of a fault").program(14, 0x81, 0xC0).with(1, 0x80000080).status(39).run(1).state(0, 2).state(1, 1)
                .state(2, 3).state(3, 1).register(1, 0x80000080).register(15, 0x80000000).hasStatus(39)
                .hasInner(0, 0x80000080);
        deadly("dead of a trap").program(30, 0, 0x51).with(1, 5).status(status(3, 3, 33)).run(1).state(0, 2).state(2, 7)
                .hasStatus(status(3, 3, 33)).register(15, 0x80000000).register(1, 5);
        deadly("dead of an overflow").program(25, 0x51).with(1, Integer.MAX_VALUE).status(status(3, 3, 33)).run(1)
                .state(0, 2).hasStatus(status(3, 3, 33)).register(15, 0x80000000).register(1, Integer.MAX_VALUE);
        deadly("dead of a change").program(6, 0x8E).status(status(3, 2, 33)).inner(3, 0x80000080).run(1).state(0, 2)
                .state(2, 8).hasStatus(status(3, 2, 33)).register(15, 0x80000000).hasInner(3, 0x80000080)
                .hasInner(0, 0x80000080);
        // Two longs go on the page that can be written; the third does not. What was pushed stays in storage.
        deadly("dead half way").program(6, 7).status(status(3, 3, 1)).inner(0, 0x80000088).longAt(320, -1).longAt(324, -1)
                .run(1).state(0, 2).look(324, status(3, 3, 1)).look(320, 0x80000002).hasInner(0, 0x80000088)
                .register(15, 0x80000000).look(1032, 0xFC000005);
        Rig stops = deadly("dead within a run").program(1, 1, 3);
        CHECK.due("dead within a run: run(9)", stops.x.run(9), 3);
        stops.state(0, 2).state(1, 3).register(15, 0x80000002);
    }

    public static void main(String[] args) {
        changes();
        rei();
        privileged();
        inners();
        exceptions();
        death();
        CHECK.end();
    }
}
