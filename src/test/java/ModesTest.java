/** Promise 10: modes, REI, CHANGE, inner registers by codes, and exceptions; a test for each sentence. */
public final class ModesTest {
    private static final Check CHECK = new Check();
    private static final int LEAST = Integer.MIN_VALUE;
    private static final int GREATEST = Integer.MAX_VALUE;
    private static final int SYSTEM = Rig.SYSTEM;
    private static final int IV = 32;

    private static Rig rig(String name) {
        return new Rig(CHECK, name);
    }

    private static int status(int mode, int previous, int rest) {
        return mode << 24 | previous << 22 | rest;
    }

    private static boolean isInner(int k) {
        for (int i : Rig.INNERS) {
            if (i == k) {
                return true;
            }
        }
        return false;
    }

    private static void changes() {
        for (int from = 0; from < 4; from++) {
            for (int to = 0; to < 4; to++) {
                int mode = Math.min(from, to);
                int top = Rig.TOPS[mode];
                Rig rig = rig("change from " + from + " to " + to).program(6 + to, 0x81).with(1, 600).longAt(600, -9)
                        .status(status(from, 1, 47));
                rig.run(1).excepted(8 + to, 1).hasStatus(status(mode, from, 0)).register(14, top - 12)
                        .look(top - 4, status(from, 1, 47)).look(top - 8, 130).look(top - 12, -9).register(1, 604);
                for (int other = 0; other < 4; other++) {
                    rig.hasInner(other, other == mode ? top - 12 : Rig.TOPS[other]);
                }
            }
        }
    }

    private static void operandOfAChange() {
        int[] values = {0, -1, LEAST, GREATEST};
        for (int v : values) {
            rig("change with " + v).program(7, 0x51).with(1, v).status(status(3, 3, 0)).run(1).excepted(9, 1)
                    .look(1488, v).hasStatus(status(1, 3, 0));
        }
        rig("a popped operand").program(8, 0x8E).longAt(1300, 7).status(status(3, 3, 0)).run(1).excepted(10, 1)
                .hasInner(3, 1304).hasInner(2, 1388).look(1388, 7);
        rig("a change that faults").program(8, 0xC1).status(status(3, 3, 0)).faults(3).hasStatus(status(0, 3, 0));
        Rig.mapped(CHECK, "an operand not there").bytes(128, 8, 0x61).with(1, -1).status(status(3, 3, 0))
                .inner(0, SYSTEM + 128).run(1).state(2, 4).look(1332, -1).look(1328, 1);
    }

    private static void reiByModes() {
        for (int from = 0; from < 4; from++) {
            for (int to = 0; to < 4; to++) {
                for (int previous = 0; previous < 4; previous++) {
                    Rig rig = rig("rei from " + from + " to " + to + ", " + previous).program(2).status(status(from, 3, 5));
                    int top = Rig.TOPS[from];
                    rig.longAt(top, 777).longAt(top + 4, status(to, previous, 42));
                    if (to < from || previous < to) {
                        rig.faults(2).hasInner(from, from == 0 ? top - 8 : top).hasStatus(status(0, from, 0));
                    } else {
                        rig.passes().register(15, 777).hasStatus(status(to, previous, 42));
                    }
                }
            }
        }
    }

    private static void reiByBits() {
        for (int b = 0; b < 32; b++) {
            if (b > 5 && b < 22 || b == 4 || b > 25) {
                rig("rei with bit " + b).program(2).longs(1600, 777, 1 << b).faults(2);
                rig("rei with bit " + b + " too").program(2).longs(1600, 777, 1 << b | 0x03C0002F).faults(2);
            } else if (b < 22) {
                rig("rei with bit " + b).program(2).longs(1600, 777, 1 << b).passes().hasStatus(1 << b);
            }
        }
        rig("rei with all it may have").program(2).longs(1600, 777, 0x03C0002F).passes().hasStatus(0x03C0002F);
    }

    private static void reiKeepsStacks() {
        for (int from = 0; from < 4; from++) {
            for (int to = from; to < 4; to++) {
                int top = Rig.TOPS[from];
                Rig rig = rig("stacks from " + from + " to " + to).program(2).status(status(from, 3, 0));
                rig.longs(top, 777, status(to, 3, 0)).passes().register(14, to == from ? top + 8 : Rig.TOPS[to]);
                for (int k = 0; k < 4; k++) {
                    rig.hasInner(k, k == from ? top + 8 : Rig.TOPS[k]);
                }
            }
        }
    }

    /** PC is popped first, then a status: of which the second can't be reached. */
    private static void reiPops() {
        Rig rig = Rig.mapped(CHECK, "half of it").bytes(128, 2).status(status(1, 1, 9)).inner(1, 124).inner(0, SYSTEM + 128);
        rig.run(1).state(2, 5).look(1332, 128).look(1328, 0).hasInner(1, 124).look(1340, status(1, 1, 9));
        rig("PC may be any").program(2).longs(1600, -1, 0).passes().register(15, -1);
    }

    private static void privileged() {
        int[] codes = {0, 10, 11};
        for (int code : codes) {
            for (int mode = 1; mode < 4; mode++) {
                rig("code " + code + " in mode " + mode).program(code, 0xC0, 0xC0).status(status(mode, 3, 1)).faults(1)
                        .hasStatus(status(0, mode, 0)).state(0, 0);
                rig("code " + code + " in mode " + mode).program(code, 9, 0).status(status(mode, 0, 1)).faults(1)
                        .hasInner(0, 1592);
            }
        }
        rig("HALT in mode 0").status(status(0, 3, 47)).run(1).state(0, 1).state(3, 0).hasStatus(status(0, 3, 47));
        // The operands are not looked for: they lie where nothing is.
        Rig.mapped(CHECK, "no operands looked for").bytes(191, 10).longAt(1028, Rig.SHUT + 20).with(15, SYSTEM + 63)
                .status(status(3, 3, 0)).inner(0, SYSTEM + 192).run(1).state(2, 1).look(1400, SYSTEM + 63);
    }

    private static void noSuchCode() {
        for (int code = 71; code < 256; code++) {
            rig("code " + code).program(code, 0xC0, 0xC0).faults(1);
        }
        rig("the last code").program(70, 0, 0, 0x61).passes();
        Rig.mapped(CHECK, "no operands looked for").bytes(191, 71).longAt(1028, Rig.SHUT + 20).with(15, SYSTEM + 63)
                .inner(0, SYSTEM + 192).run(1).state(2, 1).look(1400, SYSTEM + 63);
    }

    private static void putInner() {
        int[] values = {0, 1, -1, LEAST, GREATEST};
        for (int k : Rig.INNERS) {
            for (int v : values) {
                if (k != 56) {
                    Rig rig = rig("put inner " + k).program(10, 0x51, k).with(1, v).status(47).passes().hasStatus(47);
                    for (int other = 0; other < 4; other++) {
                        rig.hasInner(other, other == k ? v : Rig.TOPS[other]);
                    }
                    rig.hasInner(k, v).hasInner(56, 0);
                }
            }
        }
        rig("the stack pointer").program(10, 0x51, 0).with(1, 800).passes().register(14, 800);
    }

    private static void getInner() {
        for (int k : Rig.INNERS) {
            for (int before = 0; before < 16; before++) {
                if (k != 56) {
                    rig("get inner " + k).program(11, k, 0x51).inner(k, -5).status(before).passes().register(1, -5).hasStatus(8);
                    rig("get 0 of " + k).program(11, k, 0x51).inner(k, 0).with(1, 4).status(before).passes().register(1, 0)
                            .hasStatus(4);
                    rig("get 3 of " + k).program(11, k, 0x51).inner(k, 3).status(before).passes().register(1, 3).hasStatus(0);
                }
            }
        }
        rig("the stack pointer as it is then").program(11, 0, 0x7E).passes().look(1596, 1596);
        rig("get MAPPED, 0").program(11, 0x8F, 56, 0, 0, 0, 0x51).with(1, 3).passes().register(1, 0).hasStatus(4);
        Rig.mapped(CHECK, "get MAPPED, 1").bytes(128, 11, 0x8F, 56, 0, 0, 0, 0x51).with(1, 3).passes().register(1, 1).hasStatus(0);
    }

    private static void noSuchInner() {
        int[] far = {64, 255, 256, 256 + 56, 1 << 16, LEAST, LEAST + 8, GREATEST, -56};
        for (int k : far) {
            rig("put inner " + k).program(10, 0, 0x51).with(1, k).status(5).faults(2);
            rig("get inner " + k).program(11, 0x51, 0x72).with(1, k).with(2, 600).longAt(596, 3).faults(2).look(596, 3);
        }
        for (int k = -2; k < 64; k++) {
            if (!isInner(k)) {
                rig("put inner " + k).program(10, 0, 0x51).with(1, k).status(5).faults(2);
                rig("get inner " + k).program(11, 0x51, 0x72).with(1, k).with(2, 600).longAt(596, 3).faults(2).look(596, 3);
            }
        }
        rig("operands before the number").program(11, 0x51, 5).with(1, 99).faults(3);
        rig("operands before the number").program(10, 5, 0xC0).faults(3);
    }

    private static void putMapped() {
        rig("0").program(10, 0, 0x8F, 56, 0, 0, 0).passes().hasInner(56, 0);
        rig("1").program(10, 1, 0x8F, 56, 0, 0, 0).passes().hasInner(56, 1).reach(0, false, 0, -51);
        int[] others = {2, 3, -1, -2, 256, 257, LEAST, LEAST + 1, GREATEST};
        for (int v : others) {
            rig("MAPPED to " + v).program(10, 0x51, 0x8F, 56, 0, 0, 0).with(1, v).faults(2).hasInner(56, 0);
            Rig.mapped(CHECK, "MAPPED to " + v).bytes(128, 10, 0x51, 0x8F, 56, 0, 0, 0).with(1, v).inner(0, SYSTEM + 128)
                    .run(1).state(2, 2).hasInner(56, 1);
        }
        Rig.mapped(CHECK, "from 1 to 0").bytes(128, 10, 0, 0x8F, 56, 0, 0, 0, 1).passes().hasInner(56, 0)
                .register(15, SYSTEM + 7).reach(-1, true, 0, 2047);
    }

    /** Each fault, from each mode, by an instruction that moved registers before it. */
    private static void faultsTakeBack() {
        for (int mode = 0; mode < 4; mode++) {
            int s = status(mode, 2, 47);
            rig("MODE").program(34, 0x81, 0x72, 3).with(1, 600).with(2, 700).status(s).faults(3).hasStatus(status(0, mode, 0));
            rig("BREAK").program(3).status(s).faults(6).hasStatus(status(0, mode, 0));
            rig("INSTRUCTION").program(99).status(s).faults(1).hasStatus(status(0, mode, 0));
            rig("OPERAND").program(68, 0x81, 0x82).with(1, 600).with(2, 700).longAt(700, 0x8000).status(s).faults(2)
                    .hasStatus(status(0, mode, 0)).hasInner(mode, Rig.TOPS[mode] - (mode == 0 ? 8 : 0));
            rig("a stack that moved").program(14, 0x8E, 3).status(s).faults(3).hasInner(mode, Rig.TOPS[mode] - (mode == 0 ? 8 : 0));
        }
    }

    private static void storageIsNotTakenBack() {
        rig("pushed by 68").program(68, 9, 0x61).with(1, 700).longAt(700, 0x8000).status(status(3, 3, 0)).faults(2)
                .look(1296, 9).hasInner(3, 1300);
        // The second push of a frame fails; the first stays, and the mark of its page, too.
        Rig.mapped(CHECK, "two pushes").bytes(128, 68, 9, 0x61).with(1, SYSTEM + 10).status(status(3, 3, 0)).with(14, 68)
                .longAt(1288, 0x80000008).inner(0, SYSTEM + 128).run(1).state(2, 4).look(1332, 60).look(576, 9)
                .look(1292, Rig.OPEN + 9 + Rig.MODIFIED).look(1288, 0x80000008).hasInner(3, 68);
    }

    private static void pushedOfAFault() {
        for (int mode = 0; mode < 4; mode++) {
            for (int c = 0; c < 16; c++) {
                int s = status(mode, 3 - mode, c | IV);
                rig("BREAK").program(3).status(s).run(1).excepted(6, 1).look(1596, s).look(1592, 128).hasInner(0, 1592)
                        .hasStatus(status(0, mode, 0));
            }
        }
    }

    private static void pushedOfATrap() {
        for (int mode = 0; mode < 4; mode++) {
            int s = status(mode, 1, IV | 1);
            rig("trap 1").program(25, 0x81).with(1, 600).longAt(600, GREATEST).status(s).run(1).excepted(7, 1)
                    .look(1596, s & ~15 | 10).look(1592, 130).look(1588, 1).hasInner(0, 1588).hasStatus(status(0, mode, 0))
                    .look(600, LEAST).register(1, 604);
            rig("trap 2").program(30, 0, 0x51).with(1, 6).status(s - IV).run(1).excepted(7, 1).look(1596, s - IV & ~15 | 2)
                    .look(1592, 131).look(1588, 2).hasInner(0, 1588).hasStatus(status(0, mode, 0));
        }
    }

    private static void addressThenFlag() {
        for (int w = 0; w < 2; w++) {
            Rig.mapped(CHECK, "ACCESS").bytes(128, w == 0 ? 21 : 20, 0x61).with(1, -1).inner(0, SYSTEM + 128).status(5).run(1)
                    .excepted(4, 1).look(1340, 5).look(1336, SYSTEM).look(1332, -1).look(1328, 1 + 4 * w)
                    .hasInner(0, SYSTEM + 112);
            Rig.mapped(CHECK, "INVALID").bytes(128, w == 0 ? 21 : 20, 0x61).with(1, 130).inner(0, SYSTEM + 128).status(5).run(1)
                    .excepted(5, 1).look(1340, 5).look(1336, SYSTEM).look(1332, 130).look(1328, 4 * w)
                    .hasInner(0, SYSTEM + 112);
        }
        // The others push nothing more.
        rig("INSTRUCTION").program(71).run(1).excepted(1, 1).hasInner(0, 1592).look(1588, 0);
        rig("OPERAND").program(11, 5, 0x51).run(1).excepted(2, 1).hasInner(0, 1592).look(1588, 0);
        rig("MODE").program(21, 0xC0).run(1).excepted(3, 1).hasInner(0, 1592).look(1588, 0);
        rig("BREAK").program(3).run(1).excepted(6, 1).hasInner(0, 1592).look(1588, 0);
    }

    private static void statusThen() {
        for (int modes = 0; modes < 16; modes++) {
            int mode = modes >> 2;
            int s = modes << 22 | 47;
            rig("fault").program(3).status(s).run(1).hasStatus(mode << 22).look(1596, s);
            rig("trap").program(30, 0, 0x51).status(s).run(1).hasStatus(mode << 22);
            for (int to = 0; to < 4; to++) {
                rig("change").program(6 + to, 1).status(s).run(1).hasStatus(Math.min(to, mode) << 24 | mode << 22);
            }
        }
    }

    private static void becomeThese() {
        int[] all = {0, 47, 0x00C00000, 0x01400005, 0x02800020, 0x03C0002F};
        for (int s : all) {
            rig("rei to " + s).program(2).longs(1600, 777, s).status(0x0080000F).passes().hasStatus(s).register(15, 777)
                    .hasInner(0, 1608);
        }
    }

    private static void vectors() {
        int[] tables = {0, 1, 1000, 2000, 2047, 2048, -1, -44, LEAST, GREATEST};
        for (int table : tables) {
            for (int k = 1; k < 12; k++) {
                int[] codes = {0, 71, 11, 21, 21, 21, 3, 30, 6, 7, 8, 9};
                int[] second = {0, 0, 5, 0xC0, 0, 0, 0, 0, 0, 0, 0, 0};
                if (k != 4 && k != 5) {
                    Rig rig = rig("vector " + k + " at " + table).inner(17, table).longAt(table + 4 * k & 2047, -77 - k);
                    rig.with(15, 1200).bytes(1200, codes[k], second[k], 0x51).run(1).state(2, k).register(15, -77 - k);
                }
            }
        }
        // In storage, though all is MAPPED; and behind the pushes.
        Rig.mapped(CHECK, "in storage").bytes(128, 3).inner(0, SYSTEM + 128).inner(17, 700).longAt(724, 4321).run(1)
                .register(15, 4321);
        Rig.mapped(CHECK, "ACCESS").bytes(128, 21, 0x61).with(1, -1).inner(0, SYSTEM + 128).inner(17, -2).longAt(14, 4321)
                .run(1).register(15, 4321).state(2, 4);
        Rig.mapped(CHECK, "INVALID").bytes(128, 21, 0x61).with(1, 128).inner(0, SYSTEM + 128).inner(17, -2).longAt(18, 4321)
                .run(1).register(15, 4321).state(2, 5);
        rig("pushed upon").program(3).inner(0, 1944 + 8).status(47).run(1).register(15, 128);
    }

    /** The handler mends what was wrong and returns: the instruction is begun once more. */
    private static void onceMore() {
        Rig rig = rig("once more").program(14, 0x81, 3);
        rig.bytes(1048, 13, 0x8F, 0x52, 0x9F, 130, 0, 0, 0, 2);
        rig.with(1, 600).longAt(600, 66).status(status(3, 3, 2)).faults(3).run(2).hasStatus(status(3, 3, 2)).register(15, 128)
                .run(1).register(2, 66).register(1, 604).hasInner(0, 1600).state(1, 4).state(3, 1);
    }

    /**
     * Code at SYSTEM, one page that isn't VALID, and behind it one for stacks, from SYSTEM + 128 on, which is at 320:
     * so many longs go on the stack of a mode.
     */
    private static Rig room(String name, int mode, int longs) {
        Rig rig = rig(name).inner(12, 1024).inner(13, 3).longs(1024, Rig.OPEN + 2, Rig.SHUT + 3).longAt(1032, Rig.OPEN + 5);
        return rig.longs(320, -1, -1, -1, -1).with(15, SYSTEM).inner(mode, SYSTEM + 128 + 4 * longs).inner(56, 1);
    }

    /** An exception that pushes these longs, in a mode, on a stack that has room for fewer. */
    private static void dies(int number, int s, int mode, int[] program, int... pushed) {
        for (int room = 0; room <= pushed.length; room++) {
            Rig rig = room("exception " + number + ", room for " + room, mode, room).bytes(128, program).with(1, SYSTEM + 68)
                    .with(2, -1).with(3, GREATEST).status(s).run(1).state(2, number).state(3, 1).state(1, 1);
            for (int i = 0; i < 4; i++) {
                rig.look(320 + 4 * i, i < room && i >= room - pushed.length ? pushed[room - 1 - i] : -1);
            }
            rig.look(1032, room > 0 ? Rig.OPEN + 5 + Rig.MODIFIED : Rig.OPEN + 5);
            if (room < pushed.length) {
                rig.state(0, 2).hasStatus(s).register(15, SYSTEM).hasInner(mode, SYSTEM + 128 + 4 * room);
                rig.register(1, SYSTEM + 68).register(2, -1).register(3, GREATEST);
                rig.refused("run", IllegalStateException.class, () -> rig.x.run(1));
            } else {
                rig.state(0, 0).hasInner(mode, SYSTEM + 128).register(15, 1000 + 16 * number);
            }
        }
    }

    private static void deadOfEach() {
        int s = status(3, 2, 41);
        dies(1, s, 0, new int[] {71}, s, SYSTEM);
        dies(2, status(0, 3, 41), 0, new int[] {11, 5, 0x52}, status(0, 3, 41), SYSTEM);
        dies(3, s, 0, new int[] {13, 1, 0xC0}, s, SYSTEM);
        dies(4, s, 0, new int[] {21, 0x62}, s, SYSTEM, -1, 1);
        dies(4, s, 0, new int[] {20, 0x82}, s, SYSTEM, -1, 5);
        dies(5, s, 0, new int[] {21, 0x71}, s, SYSTEM, SYSTEM + 64, 0);
        dies(5, s, 0, new int[] {20, 0x81}, s, SYSTEM, SYSTEM + 68, 4);
        dies(6, s, 0, new int[] {3}, s, SYSTEM);
    }

    private static void deadOfTraps() {
        for (int mode = 0; mode < 4; mode++) {
            int s = status(mode, 3, IV | 1);
            dies(7, s, 0, new int[] {25, 0x53}, s & ~15 | 10, SYSTEM + 2, 1);
            dies(7, s, 0, new int[] {30, 0, 0x53}, s & ~15 | 2, SYSTEM + 3, 2);
            dies(7, s - IV, 0, new int[] {37, 0, 0x52, 0x51}, s - IV & ~15 | 10, SYSTEM + 4, 2);
        }
    }

    private static void deadOfChanges() {
        for (int from = 0; from < 4; from++) {
            for (int to = 0; to < 4; to++) {
                int s = status(from, 2, 39);
                dies(8 + to, s, Math.min(from, to), new int[] {6 + to, 0x53}, s, SYSTEM + 2, GREATEST);
            }
        }
        // A CHANGE's operand moved a register, and its mode's stack is its own.
        room("moved", 1, 2).program(7, 0x83).with(3, SYSTEM + 1).status(status(3, 3, 0)).run(1).state(0, 2)
                .register(3, SYSTEM + 1).hasInner(1, SYSTEM + 136).hasInner(3, 1300);
    }

    /** Pushing goes by the rights of the mode in which the exception is. */
    private static void rightsOfPushing() {
        for (int writer = 0; writer < 4; writer++) {
            int entry = 0x98000005 & ~(3 << 29) | writer << 29;
            room("a fault", 0, 4).longAt(1032, entry).bytes(128, 3).status(status(3, 3, 0)).run(1).state(0, 0);
            for (int to = 0; to < 4; to++) {
                room("change to " + to, to, 4).longAt(1032, entry).bytes(128, 6 + to, 9).status(status(3, 3, 0)).run(1)
                        .state(0, to <= writer ? 0 : 2).state(2, 8 + to);
            }
        }
    }

    public static void main(String[] args) {
        Words words = new Words(CHECK);
        words.hold("CHANGE: an exception of its mode, or of the mode that is, if that is less.", ModesTest::changes);
        words.hold("for 8 to 11 the operand", ModesTest::operandOfAChange);
        words.hold("its MODE is less than the mode, or its PREVIOUS less than its MODE", ModesTest::reiByModes);
        words.hold("OPERAND, if it has bits that must be 0", ModesTest::reiByBits);
        words.hold("(each mode's stack register stays its own)", ModesTest::reiKeepsStacks);
        words.hold("REI: PC is popped, then a status", ModesTest::reiPops);
        words.hold("PC and status become these", ModesTest::becomeThese);
        words.hold("0, 10 and 11 in another mode than 0", ModesTest::privileged);
        words.hold("and all codes above 70: INSTRUCTION, before operands are looked for", ModesTest::noSuchCode);
        words.hold("10 PUT INNER rL rL: the first into the inner register of the second's number", ModesTest::putInner);
        words.hold("11 GET INNER rL wL: n z", ModesTest::getInner);
        words.hold("10 and 11: OPERAND if there is no such inner register", ModesTest::noSuchInner);
        words.hold("or MAPPED would become another number than 0 or 1", ModesTest::putMapped);
        words.hold("A fault (1 to 6) takes back all that the instruction did to registers and status", ModesTest::faultsTakeBack);
        words.hold("(not what it wrote in storage)", ModesTest::storageIsNotTakenBack);
        words.hold("as they were before the instruction (of a fault)", ModesTest::pushedOfAFault);
        words.hold("or as it left them", ModesTest::pushedOfATrap);
        words.hold("for 4 and 5 the address, then the flag", ModesTest::addressThenFlag);
        words.hold("The status is then: MODE this one, PREVIOUS that before, all else 0", ModesTest::statusThen);
        words.hold("PC is the long in storage at VECTORS + 4 * its number.", ModesTest::vectors);
        words.hold("faults that undo an instruction so that it can be begun once more", ModesTest::onceMore);
        words.hold("If something can't be pushed, the machine is DEAD", ModesTest::deadOfEach);
        words.hold("registers and status are as before the instruction (of a trap and a CHANGE, too).", ModesTest::deadOfTraps);
        words.hold("(of a trap and a CHANGE, too)", ModesTest::deadOfChanges);
        words.hold("in mode 0 (of a CHANGE: in the mode that is told)", ModesTest::rightsOfPushing);
        CHECK.end();
    }
}
