/** Promise 10: PROBE; a test for each part of its sentence. */
public final class ProbesTest {
    private static final Check CHECK = new Check();
    private static final int LEAST = Integer.MIN_VALUE;
    private static final int SYSTEM = Rig.SYSTEM;
    private static final int ONE = Rig.ONE;
    private static final int READ = 69, WRITE = 70;
    private static final int Z = 4;

    /** The entry of page 0 of region 0 as given; PROBE R1 R2 (R3). */
    private static Rig probe(String name, int entry, int code, int first, int length, int address, int status) {
        return Rig.mapped(CHECK, "probe: " + name).longAt(1288, entry).bytes(128, code, 0x51, 0x52, 0x63).with(1, first)
                .with(2, length).with(3, address).status(status);
    }

    private static void probed(String name, int entry, int first, int length, int address, int status, boolean may) {
        for (int code = READ; code <= WRITE; code++) {
            probe(name, entry, code, first, length, address, status).passes().hasStatus(status & ~15 | (may ? Z : 0))
                    .register(15, SYSTEM + 4).register(1, first).register(2, length).register(3, address).look(1288, entry);
        }
    }

    private static void twoBytes() {
        int open = Rig.OPEN + 8;
        probed("one byte", open, 0, 1, 0, 15, true);
        probed("to a page's end", open, 0, 64, 0, 0, true);
        probed("over it", open, 0, 65, 0, 0, true);
        probed("up to what isn't VALID", open, 0, 192, 0, 15, true);
        probed("up to what isn't there", open, 0, 193, 0, 15, false);
        probed("the first isn't there", open, 0, -191, 192, 15, false);
        probed("the second isn't there", open, 0, -1, 0, 15, false);
        probed("of 0 bytes: the one before", open, 0, 0, 64, 15, true);
        probed("of 0 bytes at 0", open, 0, 0, 0, 15, false);
        probed("back by one", open, 0, -63, 64, 15, true);
        probed("what lies between isn't looked at", open, 0, LEAST + 1, 0, 15, true);
        probed("over the greatest", open, 0, 2, ONE + ONE - 1, 15, false);
        probed("region 3", open, 0, 1, -1, 15, false);
        probed("round to 0, the first isn't there", open, 0, 2, -1, 15, false);
    }

    /** A byte that is the first of storage is there as any other. */
    private static void atTheFirstOfStorage() {
        for (int code = READ; code <= WRITE; code++) {
            probe("at 0 in storage", Rig.OPEN, code, 0, 1, 0, 11).passes().hasStatus(Z);
            probe("the second at 0 in storage", Rig.OPEN, code, 0, -63, 64, 11).passes().hasStatus(Z);
        }
    }

    private static void secondIfTheFirstMay() {
        for (int code = READ; code <= WRITE; code++) {
            // The second's entry lies on a page that isn't VALID: a fault, if it is looked at.
            int far = ONE + 36 * 64 + 7;
            probe("looked at", Rig.OPEN + 8, code, 0, far + 1, 0, 9).inner(0, SYSTEM + 128).run(1).state(2, 5).look(1332, far);
            probe("not looked at", Rig.OPEN + 8, code, 0, far + 1 - 192, 192, 9).passes().hasStatus(0);
            probe("not looked at", 0, code, 1, far + 1, 0, 9).passes().hasStatus(0);
        }
    }

    private static void rights() {
        for (int reader = 0; reader < 4; reader++) {
            for (int writer = 0; writer < 4; writer++) {
                for (int previous = 0; previous < 4; previous++) {
                    for (int first = 0; first < 4; first++) {
                        int entry = 0x80000008 | reader << 27 | writer << 29;
                        int mode = Math.max(previous, first);
                        int s = previous << 22 | 11;
                        boolean writes = writer <= reader && mode <= writer;
                        probe("read", entry, READ, first, 1, 0, s).passes().hasStatus(previous << 22 | (mode <= reader ? Z : 0));
                        probe("write", entry, WRITE, first, 1, 0, s).passes().hasStatus(previous << 22 | (writes ? Z : 0))
                                .look(1288, entry);
                    }
                }
            }
        }
        // The mode that is means nothing here.
        probe("mode 3", 0xA0000008, READ, 0, 1, 0, 3 << 24).passes().hasStatus(3 << 24 | Z);
    }

    private static void lowestTwoBits() {
        int[] firsts = {4, 5, 8 + 1, 0xFC, 0xFD, 0x100, 0x101, -4, -3};
        for (int first : firsts) {
            probed("first " + first, 0xA8000008, first, 1, 0, 0, true);
        }
        int[] others = {2, 3, 6, 7, 0xFE, 0xFF, -1, -2};
        for (int first : others) {
            probed("first " + first, 0xA8000008, first, 1, 0, 0, false);
        }
    }

    private static void validOrNot() {
        probed("not VALID", Rig.SHUT + 8, 3, 64, 0, 15, true);
        probed("not VALID, may not", 0x28000008, 2, 64, 0, 15, false);
        probed("not VALID, may", 0x28000008, 1, 64, 0, 15, true);
        probed("region 2, not VALID", Rig.OPEN, 3, 64, SYSTEM + 192, 15, true);
        probed("region 2, not there", Rig.OPEN, 0, 65, SYSTEM + 192, 15, false);
        probed("the entry's page isn't there", Rig.OPEN, 0, 1, ONE + 37 * 64, 15, false);
        probed("the second's entry's page isn't there", Rig.OPEN, 0, ONE + 37 * 64 + 1, 0, 15, false);
    }

    private static void flag2() {
        for (int code = READ; code <= WRITE; code++) {
            int flag = code == READ ? 2 : 6;
            int far = ONE + 36 * 64 + 7;
            probe("the first", Rig.OPEN, code, 0, 1, far, 9).inner(0, SYSTEM + 128).run(1).state(2, 5).state(3, 1)
                    .look(1340, 9).look(1336, SYSTEM).look(1332, far).look(1328, flag).register(3, far);
            probe("the second", Rig.OPEN, code, 0, 9, far - 8, 9).inner(0, SYSTEM + 128).run(1).state(2, 5).look(1332, far - 8);
            probe("the second alone", Rig.OPEN + 8, code, 0, far + 1, 0, 9).inner(0, SYSTEM + 128).run(1).state(2, 5)
                    .look(1332, far).look(1328, flag).hasStatus(0);
        }
    }

    private static void conditions() {
        for (int before = 0; before < 16; before++) {
            probed("may", Rig.OPEN + 8, 0, 1, 0, before, true);
            probed("may not", Rig.OPEN + 8, 0, 1, -1, before, false);
        }
    }

    private static void notMapped() {
        for (int code = READ; code <= WRITE; code++) {
            new Rig(CHECK, "not MAPPED").program(code, 3, 0, 0x61).with(1, -7).status(11).passes().hasStatus(Z);
        }
    }

    public static void main(String[] args) {
        Words words = new Words(CHECK);
        words.hold("Z if the byte at the address, and then that at the address + the second - 1", ProbesTest::twoBytes);
        words.hold("The byte is in storage at 64 * FRAME + its place.", ProbesTest::atTheFirstOfStorage);
        words.hold("(looked at if the first may)", ProbesTest::secondIfTheFirstMay);
        words.hold("may be read, 70: written, in the greater one of PREVIOUS and the mode", ProbesTest::rights);
        words.hold("the mode of the first's lowest two bits", ProbesTest::lowestTwoBits);
        words.hold("whether VALID or not", ProbesTest::validOrNot);
        words.hold("(flag 2 is a fault as always)", ProbesTest::flag2);
        words.hold("else not Z; N, V, C are 0", ProbesTest::conditions);
        words.hold("when MAPPED is 0 it is that in storage", ProbesTest::notMapped);
        CHECK.end();
    }
}
