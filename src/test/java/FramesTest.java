/** Promise 10: CALL FRAME and RET; a test for each sentence. */
public final class FramesTest {
    private static final Check CHECK = new Check();
    private static final int LEAST = Integer.MIN_VALUE;
    private static final int GREATEST = Integer.MAX_VALUE;
    private static final int SYSTEM = Rig.SYSTEM;
    private static final int IV = 32;
    private static final int MARK = 1 << 29;

    private static Rig rig(String name) {
        return new Rig(CHECK, name);
    }

    /** CALL FRAME with R10 (2) and 700, where the mask lies; R0 to R11 are 100 and above, but for R10. */
    private static Rig called(String name, int top, int mask, int status) {
        Rig rig = rig(name).program(68, 0x5A, 0x9F, 0xBC, 2, 0, 0).bytes(700, mask, mask >> 8).status(status).with(14, top);
        for (int r = 0; r < 12; r++) {
            rig.with(r, 100 + r);
        }
        return rig.with(10, 2).with(12, 512).with(13, 513);
    }

    private static int valueOf(int r) {
        return r == 10 ? 2 : 100 + r;
    }

    private static void firstIsPushed() {
        int[] values = {0, 1, -1, LEAST, GREATEST, 255, 256};
        for (int v : values) {
            called("first " + v, 1604, 0, 0).with(10, v).passes().look(1600, v).register(12, 1600);
        }
        called("the stack pointer itself", 1604, 0, 0).bytes(129, 0x5E).passes().look(1600, 1604).register(12, 1600);
        called("what is popped", 1600, 0, 0).bytes(129, 0x8E).longAt(1600, 7).passes().look(1600, 7).register(12, 1600);
        called("round 0", 2, 0, 0).passes().look(2046, 2).register(12, -2).register(14, -4 - 20);
        // It is pushed before the mask is looked for.
        Rig.mapped(CHECK, "push before mask").bytes(128, 68, 1, 0x61).with(1, -1).status(0x03C00000).with(14, 132)
                .inner(0, SYSTEM + 128).run(1).state(2, 5).look(1332, 128).look(1328, 4);
        Rig.mapped(CHECK, "mask not there").bytes(128, 68, 9, 0x61).with(1, -1).status(0x03C00000).with(14, 64)
                .inner(0, SYSTEM + 128).run(1).state(2, 4).look(1332, -1).look(1328, 1).look(572, 9).hasInner(3, 64);
    }

    private static void maskMustBe0() {
        for (int b = 0; b < 16; b++) {
            if (b == 12 || b == 13 || b == 15) {
                called("mask, bit " + b, 1500, 1 << b, IV | 1).run(1).excepted(2, 1).register(12, 512).register(13, 513)
                        .register(14, 1492).look(1496, IV | 1).look(1492, 128);
                called("mask, bit " + b + " of all", 1500, 0x4FFF | 1 << b, 0).faults(2);
            } else {
                called("mask, bit " + b, 1500, 1 << b, 0).passes().register(15, 702);
            }
        }
        called("mask, all it may have", 1500, 0x4FFF, 0).passes().register(15, 702);
        called("mask, all", 1500, 0xFFFF, 0).faults(2);
    }

    private static void twoBytes() {
        rig("round the end").program(68, 0, 0x61).with(1, 2047).bytes(2047, 2).bytes(0, 0x40).passes().register(15, 2049)
                .hasStatus(IV).register(14, 1572);
        rig("at the greatest").program(68, 0, 0x61).with(1, GREATEST).bytes(2047, 2).bytes(0, 0x40).passes()
                .register(15, LEAST + 1).hasStatus(IV);
        rig("no more than two").program(68, 0, 0x61).with(1, 700).longAt(700, 0xFFFF0000).passes().register(15, 702);
        Rig end = rig("a page's last two").inner(12, 1024).inner(13, 2).longs(1024, Rig.OPEN + 2, Rig.SHUT + 3);
        end.bytes(128, 68, 0, 0x61).bytes(190, 2, 0x40).with(1, SYSTEM + 62).with(15, SYSTEM).inner(0, SYSTEM + 56)
                .inner(56, 1).passes().register(15, SYSTEM + 64).hasStatus(IV).register(14, SYSTEM + 28);
        Rig over = rig("a page's last one").inner(12, 1024).inner(13, 2).longs(1024, Rig.OPEN + 2, Rig.SHUT + 3);
        over.bytes(128, 68, 0, 0x61).with(1, SYSTEM + 63).with(15, SYSTEM).inner(0, SYSTEM + 56).inner(56, 1).run(1)
                .state(2, 5).look(128 + 56 - 12, SYSTEM + 64).look(128 + 56 - 16, 0);
        Rig.mapped(CHECK, "read, not written").bytes(128, 68, 0, 0x61).with(1, 0).longAt(1288, 0x80000008)
                .inner(0, SYSTEM + 192).passes().register(15, 2).look(1288, 0x80000008);
    }

    private static void multipleOf4() {
        int[] tops = {1604, 4, 0, LEAST + 4, -4};
        for (int top : tops) {
            for (int a = 0; a < 4; a++) {
                Rig rig = called("A " + a + " of " + top, top + a, 0, 0).passes();
                rig.look(top - 4 + a, 2).register(12, top - 4 + a).register(14, top - 24).register(13, top - 24);
                rig.look(top - 20, a << 30 | MARK).look(top - 8, 135);
            }
        }
    }

    private static void savedRegisters() {
        for (int r = 0; r < 12; r++) {
            called("R" + r + " alone", 1604, 1 << r, 0).passes().look(1596, valueOf(r)).look(1592, 135).register(14, 1576)
                    .look(1580, MARK | 1 << r << 16).register(r, valueOf(r));
        }
        Rig all = called("all", 1604, 0x0FFF, 0).passes().register(14, 1600 - 48 - 20).look(1536, MARK | 0x0FFF << 16);
        for (int r = 0; r < 12; r++) {
            all.look(1552 + 4 * r, valueOf(r));
        }
        called("none", 1604, 0, 0).passes().register(14, 1580).look(1596, 135).look(1584, MARK);
        called("some", 1604, 0x0805, 0).passes().look(1596, 111).look(1592, 102).look(1588, 100).look(1584, 135);
    }

    private static void linkage() {
        for (int s = 0; s < 16; s++) {
            for (int iv = 0; iv <= IV; iv += IV) {
                int status = 0x01C00000 | s | iv;
                Rig rig = called("status " + status, 1604, 0, status).longAt(1580, -1).passes();
                rig.look(1596, 135).look(1592, 513).look(1588, 512).look(1584, MARK | s | iv).look(1580, 0);
            }
        }
    }

    private static void behindTheCall() {
        for (int s = 0; s < 16; s++) {
            for (int iv = 0; iv <= IV; iv += IV) {
                int status = 0x02C00000 | s | iv;
                called("IV set", 1604, 0x4000, status).passes().hasStatus(0x02C00000 | IV).hasInner(2, 1580);
                called("IV not set", 1604, 0, status).passes().hasStatus(0x02C00000).register(13, 1580).register(12, 1600)
                        .register(15, 702).hasInner(0, 1600);
            }
        }
        rig("no register for the address").program(68, 1, 0x51).faults(3);
        rig("no literal for the address").program(68, 1, 1).faults(3);
        rig("indexed by bytes").program(68, 1, 0x42, 0x61).with(1, 600).with(2, 100).passes().register(15, 702);
    }

    /** A frame at 600 by hand: T and what is behind it. */
    private static Rig returning(String name, int t) {
        return rig(name).program(4).with(13, 600).longs(604, t, 12, 513, 515).longs(620, 1, 2, 3, 4, 5, 6, 7, 8, 9, 10, 11, 12, 13, 14);
    }

    private static void frameAnd4() {
        rig("FRAME -4").program(4).with(13, -4).longs(0, 0, 12, 513, 515).passes().register(14, 16).register(15, 515);
        rig("FRAME, the greatest").program(4).with(13, GREATEST).longs(3, 0, 12, 513, 515).passes().register(14, LEAST + 19)
                .register(15, 515);
        rig("FRAME, odd").program(4).with(13, 601).longs(605, 0, 12, 513, 515).passes().register(14, 621);
        rig("R14 before means nothing").program(4).with(13, 600).with(14, 3).longs(604, 0, 12, 513, 515).passes()
                .register(14, 620);
    }

    private static void poppedRegisters() {
        for (int r = 0; r < 12; r++) {
            Rig rig = returning("R" + r + " alone", 1 << 16 + r).passes().register(12, 12).register(13, 513).register(15, 515);
            for (int other = 0; other < 12; other++) {
                rig.register(other, other == r ? 1 : 0);
            }
            rig.register(14, 624);
        }
        Rig all = returning("all", 0x0FFF0000).passes().register(14, 668);
        for (int r = 0; r < 12; r++) {
            all.register(r, r + 1);
        }
        Rig none = returning("none", 0).passes().register(14, 620);
        for (int r = 0; r < 12; r++) {
            none.register(r, 0);
        }
        returning("bit 28 means nothing", 0x10000000).passes().register(14, 620).register(12, 12);
    }

    private static void growsByA() {
        for (int a = 0; a < 4; a++) {
            returning("A " + a, a << 30).passes().register(14, 620 + a);
            returning("A " + a + " and R0", a << 30 | 1 << 16).passes().register(14, 624 + a).register(0, 1);
            returning("A " + a + ", then a long", a << 30 | MARK).longAt(620 + a, 3).passes().register(14, 624 + a + 12);
        }
    }

    private static void lowestByte() {
        int[] counts = {0, 1, 127, 128, 255, 256, 0xFF00, -1, -256, LEAST, 0x12345602};
        for (int count : counts) {
            returning("count " + count, MARK).longAt(620, count).passes().register(14, 624 + 4 * (count & 255));
        }
        returning("no count", 0).longAt(620, 3).passes().register(14, 620);
    }

    private static void conditionsOfT() {
        for (int s = 0; s < 16; s++) {
            for (int iv = 0; iv <= IV; iv += IV) {
                returning("T's " + (s | iv), s | iv).status(0x03C00000 | 47 - s - iv).passes().hasStatus(0x03C00000 | s | iv);
            }
        }
    }

    private static void bitsOfT() {
        for (int b = 0; b < 16; b++) {
            if (b < 4 || b == 5) {
                returning("T, bit " + b, 1 << b | 1 << 17).passes().hasStatus(1 << b).register(1, 1);
            } else {
                returning("T, bit " + b, 1 << b | 1 << 17).with(12, 5).status(9).faults(2);
                returning("T, bit " + b + " of all", 1 << b | 0x6FFF002F).status(0x03C00000).faults(2).hasInner(3, 1300);
            }
        }
        for (int b = 16; b < 32; b++) {
            returning("T, bit " + b, 1 << b).passes();
        }
    }

    /** T is looked at when it is popped: what stands behind it can't be reached. */
    private static void whenTIsPopped() {
        int[] ts = {16, 0};
        for (int t : ts) {
            Rig rig = rig("T " + t).inner(12, 1024).inner(13, 2).longs(1024, Rig.OPEN + 2, Rig.SHUT + 3);
            rig.bytes(128, 4).inner(0, SYSTEM + 32).with(15, SYSTEM).with(13, SYSTEM + 56).longAt(188, t).inner(56, 1).run(1);
            if (t == 16) {
                rig.state(2, 2).hasInner(0, SYSTEM + 24);
            } else {
                rig.state(2, 5).hasInner(0, SYSTEM + 16).look(144, 0).look(148, SYSTEM + 64).register(13, SYSTEM + 56);
            }
        }
        Rig none = Rig.mapped(CHECK, "T itself isn't there").bytes(128, 4).with(13, -8).inner(0, SYSTEM + 128);
        none.run(1).state(2, 4).look(1332, -4).look(1328, 1).hasInner(0, SYSTEM + 112).register(13, -8);
    }

    /** The last long of a frame can't be popped: all that was popped is taken back. */
    private static void takenBack() {
        Rig rig = rig("half a frame").inner(12, 1024).inner(13, 2).longs(1024, Rig.OPEN + 2, Rig.SHUT + 3);
        rig.bytes(128, 4).inner(0, SYSTEM + 36).with(15, SYSTEM).with(13, SYSTEM + 40).with(0, 77).with(12, 78).status(5);
        rig.longs(172, MARK | 1 << 16 | 10, 1, 2, 3).longAt(188, 4).inner(56, 1).run(1).state(2, 5);
        rig.register(0, 77).register(12, 78).register(13, SYSTEM + 40).hasInner(0, SYSTEM + 20).look(128 + 32, 5);
    }

    private static void thereAndBack() {
        for (int a = 0; a < 4; a++) {
            Rig rig = called("there and back, " + a, 1604 + a, 0x0A05, 13).bytes(702, 4).passes();
            for (int r = 0; r < 12; r++) {
                rig.with(r, -r);
            }
            rig.passes().register(14, 1604 + a + 8).register(12, 512).register(13, 513).register(15, 135).hasStatus(13);
            rig.register(0, 100).register(1, -1).register(2, 102).register(3, -3).register(8, -8).register(9, 109)
                    .register(10, -10).register(11, 111);
        }
        called("IV comes back", 1604, 0, 0x03C0002F).bytes(702, 4).run(2).state(3, 0).hasStatus(0x03C0002F);
        called("IV goes", 1604, 0x4000, 0x03C00005).bytes(702, 4).run(2).hasStatus(0x03C00005);
    }

    public static void main(String[] args) {
        Words words = new Words(CHECK);
        words.hold("68: the first operand is pushed; then, with E its address", FramesTest::firstIsPushed);
        words.hold("(bits 12, 13, 15 must be 0, else OPERAND)", FramesTest::maskMustBe0);
        words.hold("M the two bytes at the second's address", FramesTest::twoBytes);
        words.hold("R14 falls to a multiple of 4 (by A, 0 .. 3)", FramesTest::multipleOf4);
        words.hold("R11 .. R0 of which M has the bit, from the highest down", FramesTest::savedRegisters);
        words.hold("PC behind the instruction, FRAME, ARGUMENTS, a long: A * 2^30 + 2^29 + (M & 4095) * 65536 + the status's"
                + " lowest 16 bits; and 0.", FramesTest::linkage);
        words.hold("FRAME is R14 then, ARGUMENTS E, the conditions are 0, IV is bit 14 of M, PC the second's address + 2.",
                FramesTest::behindTheCall);
        words.hold("RET: R14 becomes FRAME + 4", FramesTest::frameAnd4);
        words.hold("a long T, ARGUMENTS, FRAME, PC, the registers of T's bits 16 .. 27, the lowest first",
                FramesTest::poppedRegisters);
        words.hold("R14 grows by A", FramesTest::growsByA);
        words.hold("if T's bit 29 is set, a long is popped, and R14 grows by 4 times its lowest byte", FramesTest::lowestByte);
        words.hold("conditions and IV are T's", FramesTest::conditionsOfT);
        words.hold("(T's bits 4 and 6 .. 15 must be 0, else OPERAND", FramesTest::bitsOfT);
        words.hold("looked at when T is popped", FramesTest::whenTIsPopped);
        words.hold("takes back all that the instruction did to registers and status", FramesTest::takenBack);
        words.hold("frames for calls", FramesTest::thereAndBack);
        CHECK.end();
    }
}
