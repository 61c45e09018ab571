/** Promise 10: how operands are found, and the MODE faults. */
public final class SpecifiersTest {
    private static final Check CHECK = new Check();
    private static final int MOVE_BYTE = 13, MOVE = 14, WIDEN = 15, CLEAR = 20, TEST = 21, INCREMENT = 25, ADD3 = 34;
    private static final int ADDRESS = 42, BYTE_ADDRESS = 43;

    private static Rig rig(String name) {
        return new Rig(CHECK, name);
    }

    private static void literalsAndRegisters() {
        for (int v = 0; v < 64; v++) {
            rig("literal " + v).program(MOVE, v, 0x50).run(1).register(0, v).register(15, 131);
        }
        rig("a literal byte").program(MOVE_BYTE, 63, 0x50).with(0, -1).run(1).register(0, 0xFFFFFF3F);
        rig("a byte of a register").program(WIDEN, 0x51, 0x52).with(1, 0x123456F8).run(1).register(2, 0xF8);
        rig("a byte into a register").program(MOVE_BYTE, 0x51, 0x52).with(1, 0x1234).with(2, 0x55667788)
                .run(1).register(2, 0x55667734);
        rig("R14 as a register").program(MOVE, 0x5E, 0x50, MOVE, 3, 0x5E).status(0x03C00000).run(1)
                .register(0, 1300).run(1).register(14, 3).hasInner(3, 3).hasInner(0, 1600);
    }

    private static void moving() {
        rig("by a register").program(MOVE, 0x61, 0x62).with(1, 600).with(2, 700).longAt(600, 0x01020384)
                .run(1).look(700, 0x01020384).register(1, 600).register(2, 700);
        rig("falling long").program(MOVE, 0x71, 0x72).with(1, 604).with(2, 704).longAt(600, 77)
                .run(1).look(700, 77).register(1, 600).register(2, 700);
        rig("falling byte").program(MOVE_BYTE, 0x71, 0x72).with(1, 601).with(2, 701).bytes(600, 77)
                .run(1).look(700, 77).register(1, 600).register(2, 700);
        rig("growing long").program(MOVE, 0x81, 0x82).with(1, 600).with(2, 700).longAt(600, 77)
                .run(1).look(700, 77).register(1, 604).register(2, 704);
        rig("growing byte").program(MOVE_BYTE, 0x81, 0x82).with(1, 600).with(2, 700).longAt(600, 0x4D4D)
                .run(1).look(700, 77).register(1, 601).register(2, 701);
        rig("growing, deferred").program(MOVE, 0x91, 0x50).with(1, 600).longAt(600, 700).longAt(700, 9)
                .run(1).register(0, 9).register(1, 604);
        rig("growing, deferred, of a byte: by 4").program(WIDEN, 0x91, 0x50).with(1, 600).longAt(600, 700)
                .longAt(700, 0x109).run(1).register(0, 9).register(1, 604);
        rig("m grows once").program(INCREMENT, 0x81).with(1, 600).longAt(600, 9).run(1).look(600, 10).register(1, 604);
        rig("one behind the other").program(ADD3, 0x81, 0x81, 0x81).with(1, 600).longAt(600, 3).longAt(604, 4)
                .run(1).look(608, 7).register(1, 612);
        rig("r is read when it is found").program(ADD3, 0x51, 0x81, 0x51).with(1, 600).longAt(600, 3)
                .run(1).register(1, 603);
        rig("w is written at the end, into a register as it is then").program(MOVE_BYTE, 0x81, 0x51).with(1, 0x6FF)
                .bytes(0x6FF, 0x42).run(1).register(1, 0x742);
        rig("round the end of storage").program(MOVE, 0x61, 0x50).with(1, 2046).bytes(2046, 1, 2).bytes(0, 3, 4)
                .run(1).register(0, 0x04030201);
        rig("a falling stack pointer").program(MOVE, 7, 0x7E).run(1).register(14, 1596).look(1596, 7);
    }

    private static void displaced() {
        rig("+ a byte").program(MOVE, 0xA1, 0x7F, 0x50).with(1, 500).longAt(627, 9).run(1).register(0, 9);
        rig("- a byte").program(MOVE, 0xA1, 0x80, 0x50).with(1, 728).longAt(600, 9).run(1).register(0, 9);
        rig("by PC + a byte").program(MOVE, 0xAF, 4, 0x50).longAt(135, 9).run(1).register(0, 9).register(15, 132);
        rig("deferred + a byte").program(MOVE, 0xB1, 4, 0x50).with(1, 600).longAt(604, 700).longAt(700, 9)
                .run(1).register(0, 9).register(1, 600);
        rig("deferred, PC + a byte").program(MOVE, 0xBF, 4, 0x50).longAt(135, 700).longAt(700, 9).run(1).register(0, 9);
        rig("+ a long").program(MOVE, 0xE1, 0, 1, 0, 0, 0x50).with(1, 500).longAt(756, 9).run(1).register(0, 9);
        rig("- a long").program(MOVE, 0xE1, 0, 0xFF, 255, 255, 0x50).with(1, 856).longAt(600, 9).run(1).register(0, 9);
        rig("by PC + a long").program(MOVE, 0xEF, 4, 0, 0, 0, 0x50).longAt(138, 9).run(1).register(0, 9).register(15, 135);
        rig("deferred + a long").program(MOVE, 0xF1, 4, 0, 0, 0, 0x50).with(1, 600).longAt(604, 700).longAt(700, 9)
                .run(1).register(0, 9);
        rig("deferred, PC + a long").program(MOVE, 0xFF, 4, 0, 0, 0, 0x50).longAt(138, 700).longAt(700, 9)
                .run(1).register(0, 9);
        rig("what is written by PC").program(MOVE, 5, 0xAF, 10).run(1).look(142, 5);
    }

    private static void behind() {
        rig("a long behind").program(MOVE, 0x8F, 1, 2, 3, 0x84, 0x50).run(1).register(0, 0x84030201).register(15, 135);
        rig("a byte behind").program(WIDEN, 0x8F, 0xFE, 0x50).run(1).register(0, 0xFE).register(15, 132);
        rig("the address of a long behind").program(ADDRESS, 0x8F, 9, 9, 9, 9, 0x50).run(1).register(0, 130).register(15, 135);
        rig("the address of a byte behind").program(BYTE_ADDRESS, 0x8F, 9, 0x50).run(1).register(0, 130).register(15, 132);
        rig("a long's address behind").program(MOVE, 0x9F, 0xBC, 2, 0, 0, 0x50).longAt(700, 9).run(1).register(0, 9)
                .register(15, 135);
        rig("a byte's address behind").program(WIDEN, 0x9F, 0xBC, 2, 0, 0, 0x50).longAt(700, 9).run(1).register(0, 9)
                .register(15, 135);
        rig("written by an address behind").program(MOVE, 5, 0x9F, 0xBC, 2, 0, 0).run(1).look(700, 5).register(15, 135);
    }

    private static void indexed() {
        rig("indexed long").program(ADDRESS, 0x42, 0x61, 0x50).with(1, 600).with(2, 5).run(1).register(0, 620);
        rig("indexed byte").program(BYTE_ADDRESS, 0x42, 0x61, 0x50).with(1, 600).with(2, 5).run(1).register(0, 605);
        rig("indexed below").program(ADDRESS, 0x42, 0x61, 0x50).with(1, 600).with(2, -5).run(1).register(0, 580);
        rig("indexed, falling").program(ADDRESS, 0x42, 0x71, 0x50).with(1, 600).with(2, 5).run(1).register(0, 616)
                .register(1, 596);
        rig("indexed, growing byte").program(BYTE_ADDRESS, 0x42, 0x81, 0x50).with(1, 600).with(2, 5).run(1)
                .register(0, 605).register(1, 601);
        rig("indexed by the one that grows, as it is then").program(BYTE_ADDRESS, 0x41, 0x81, 0x50).with(1, 600)
                .run(1).register(0, 1201).register(1, 601);
        rig("indexed by the one that falls").program(ADDRESS, 0x41, 0x71, 0x50).with(1, 604).run(1).register(0, 3000);
        rig("indexed behind deferring").program(ADDRESS, 0x42, 0x91, 0x50).with(1, 600).with(2, 5).longAt(600, 700)
                .run(1).register(0, 720).register(1, 604);
        rig("indexed, absolute").program(ADDRESS, 0x42, 0x9F, 0xBC, 2, 0, 0, 0x50).with(2, 5).run(1).register(0, 720);
        rig("indexed, + a byte").program(ADDRESS, 0x42, 0xA1, 0xFF, 0x50).with(1, 600).with(2, 5).run(1).register(0, 619);
        rig("indexed, PC + a byte").program(ADDRESS, 0x42, 0xAF, 0, 0x50).with(2, 5).run(1).register(0, 152);
        rig("indexed, deferred + a byte").program(ADDRESS, 0x42, 0xB1, 4, 0x50).with(1, 600).with(2, 5).longAt(604, 700)
                .run(1).register(0, 720);
        rig("indexed, + a long").program(ADDRESS, 0x42, 0xE1, 1, 0, 0, 0, 0x50).with(1, 600).with(2, 5).run(1)
                .register(0, 621);
        rig("indexed, deferred + a long").program(ADDRESS, 0x42, 0xF1, 4, 0, 0, 0, 0x50).with(1, 600).with(2, 5)
                .longAt(604, 700).run(1).register(0, 720);
        rig("indexed and written").program(MOVE, 9, 0x42, 0x61).with(1, 600).with(2, 5).run(1).look(620, 9);
        rig("indexed by R14").program(ADDRESS, 0x4E, 0x61, 0x50).with(1, 0).run(1).register(0, 6400);
    }

    private static void modeFaults() {
        for (int n = 0; n < 16; n++) {
            rig("12").program(TEST, 0xC0 + n).faults(3);
            rig("13").program(TEST, 0xD0 + n).faults(3);
            rig("12 indexed").program(TEST, 0x41, 0xC0 + n).faults(3);
            rig("13 indexed").program(TEST, 0x41, 0xD0 + n).faults(3);
            rig("register for a").program(ADDRESS, 0x50 + n, 0x50).faults(3);
            rig("register behind 4").program(TEST, 0x41, 0x50 + n).faults(3);
            rig("4 behind 4").program(TEST, 0x41, 0x40 + n, 0x61).faults(3);
        }
        for (int v = 0; v < 64; v++) {
            rig("literal for w").program(CLEAR, v).faults(3);
            rig("literal for m").program(INCREMENT, v).faults(3);
            rig("literal for aL").program(ADDRESS, v, 0x50).faults(3);
            rig("literal for aB").program(BYTE_ADDRESS, v, 0x50).faults(3);
            rig("literal behind 4").program(TEST, 0x41, v).faults(3);
        }
        for (int m = 4; m < 8; m++) {
            rig(m + " with 15, r").program(TEST, 16 * m + 15, 0x61).faults(3);
            rig(m + " with 15, w").program(CLEAR, 16 * m + 15, 0x61).faults(3);
            rig(m + " with 15, m").program(INCREMENT, 16 * m + 15, 0x61).faults(3);
            rig(m + " with 15, a").program(ADDRESS, 16 * m + 15, 0x61, 0x50).faults(3);
            rig(m + " with 15 behind 4").program(TEST, 0x41, 16 * m + 15, 0x61).faults(3);
        }
        rig("8 with 15 for w").program(CLEAR, 0x8F).faults(3);
        rig("8 with 15 for wB").program(MOVE_BYTE, 1, 0x8F).faults(3);
        rig("8 with 15 for m").program(INCREMENT, 0x8F).faults(3);
        rig("8 with 15 behind 4, r").program(TEST, 0x41, 0x8F).faults(3);
        rig("8 with 15 behind 4, a").program(ADDRESS, 0x41, 0x8F, 0, 0, 0, 0, 0x50).faults(3);
        rig("what moved is taken back").program(ADD3, 0x81, 0x71, 3).with(1, 600).status(0x0000002F).faults(3).hasStatus(0);
        rig("from another mode").program(MOVE, 0x8E, 3).status(0x03C00005).with(14, 700).faults(3)
                .hasStatus(0x00C00000).hasInner(3, 700);
    }

    public static void main(String[] args) {
        literalsAndRegisters();
        moving();
        displaced();
        behind();
        indexed();
        modeFaults();
        CHECK.end();
    }
}
