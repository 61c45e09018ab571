/** Promises 1 to 12: a test for each sentence that names an edge. */
public final class PromisesTest {
    private static final Check CHECK = new Check();
    private static final int LEAST = Integer.MIN_VALUE;
    private static final int GREATEST = Integer.MAX_VALUE;
    private static final int ONE = Rig.ONE;
    private static final int STATUS_BITS = 0x03C0002F;
    private static final Class<IndexOutOfBoundsException> NO_INDEX = IndexOutOfBoundsException.class;
    private static final Class<IllegalArgumentException> NO_ARGUMENT = IllegalArgumentException.class;
    private static final Class<IllegalStateException> NO_STATE = IllegalStateException.class;

    private static Rig rig(String name) {
        return new Rig(CHECK, name);
    }

    /** The pushes of an exception can't be reached: the first instruction leaves it DEAD. */
    private static Rig dead() {
        return rig("dead").inner(56, 1).run(1).state(0, 2);
    }

    private static Rig halted() {
        return rig("halted").run(1).state(0, 1);
    }

    private static void the512thCall() {
        QuadMode x = new QuadMode();
        x.fill(0, 0xFE30L); // GO -2
        for (int call = 2; call <= 510; call++) {
            x.set(1, call);
        }
        CHECK.due("call 511, run(200)", x.run(200), 200);
        CHECK.due("call 512, state(1)", x.state(1), 200);
    }

    private static void storageIs0() {
        for (int part = 0; part < 2; part++) {
            QuadMode x = new QuadMode();
            for (int a = 1024 * part; a < 1024 * (part + 1); a += 4) {
                CHECK.due("new: look(" + a + ")", x.look(a), 0);
            }
        }
    }

    private static void registersAre0() {
        QuadMode x = new QuadMode();
        for (int mode = 0; mode < 4; mode++) {
            x.begin(mode << 24);
            for (int r = 0; r < 16; r++) {
                CHECK.due("new, mode " + mode + ": register(" + r + ")", x.register(r), 0);
            }
        }
        for (int k : Rig.INNERS) {
            CHECK.due("new: inner(" + k + ")", x.inner(k), 0);
        }
    }

    private static void newAndWell() {
        QuadMode x = new QuadMode();
        CHECK.due("new: status()", x.status(), 0);
        for (int what = 0; what < 4; what++) {
            CHECK.due("new: state(" + what + ")", x.state(what), 0);
        }
        CHECK.due("new: run(1)", x.run(1), 1);
        CHECK.due("new: state(0) behind HALT", x.state(0), 1);
    }

    private static void objectsShareNothing() {
        QuadMode x = new QuadMode();
        QuadMode y = new QuadMode();
        x.fill(8, -1L);
        x.set(3, 5);
        x.setInner(12, 6);
        x.begin(47);
        x.run(1);
        CHECK.due("other: look(8)", y.look(8), 0);
        CHECK.due("other: register(3)", y.register(3), 0);
        CHECK.due("other: inner(12)", y.inner(12), 0);
        CHECK.due("other: status()", y.status(), 0);
        CHECK.due("other: state(0)", y.state(0), 0);
        CHECK.due("other: state(1)", y.state(1), 0);
    }

    private static void eightBytes() {
        Rig rig = rig("fill").fill(592, -1L).fill(608, -1L).fill(600, 0x8877665544332211L);
        for (int i = 0; i < 5; i++) {
            rig.look(600 + i, (int) (0x8877665544332211L >>> 8 * i));
        }
        rig.look(596, -1).look(597, 0x11FFFFFF).look(605, 0xFF887766).look(608, -1);
        rig("fill with bit 63").fill(600, Long.MIN_VALUE).look(600, 0).look(604, LEAST);
        rig("fill again").fill(600, -1L).fill(604, 0L).look(600, -1).look(604, 0).look(608, 0);
    }

    private static void fillRoundTheEnd() {
        for (int at = 2040; at < 2048; at++) {
            int[] names = {at, at - 2048, at + 2048, at + (1 << 30), at - (1 << 30), LEAST + at, GREATEST - 2047 + at};
            for (int address : names) {
                Rig rig = rig("fill at " + address).fill(2032, -1L).fill(2040, -1L).fill(0, -1L).fill(8, -1L);
                rig.fill(address, 0x0807060504030201L);
                for (int i = 0; i < 8; i++) {
                    rig.look(at + i - 3, look4(i));
                }
                rig.look(at - 4, -1).look(at + 8, -1);
            }
        }
    }

    /** The long three bytes before the byte i of 1 to 8, with bytes 255 before them. */
    private static int look4(int i) {
        int v = 0;
        for (int k = 3; k >= 0; k--) {
            int which = i - 3 + k;
            v = v << 8 | (which < 0 ? 255 : which + 1);
        }
        return v;
    }

    private static void lookRoundTheEnd() {
        Rig rig = rig("look").fill(2040, 0x8706050403020100L).fill(0, 0xFFEEDDCCBBAA9988L);
        int[] due = {0x87060504, 0x88870605, 0x99888706, 0xAA998887, 0xBBAA9988};
        for (int i = 0; i < due.length; i++) {
            int at = 2044 + i;
            rig.look(at, due[i]).look(at - 2048, due[i]).look(at + 2048, due[i]).look(at + LEAST, due[i]);
            rig.look(GREATEST - 3 + i, due[i]);
        }
        // Storage is looked at, whatever is MAPPED.
        rig.inner(56, 1).look(2044, 0x87060504).fill(2044, 5L).look(2044, 5);
    }

    private static void setsOneRegister() {
        int[] values = {LEAST, -1, 0, 1, GREATEST};
        for (int r = 0; r < 16; r++) {
            for (int v : values) {
                Rig rig = rig("set(" + r + ")");
                for (int other = 0; other < 16; other++) {
                    rig.with(other, 70 + other);
                }
                rig.with(r, v);
                for (int other = 0; other < 16; other++) {
                    rig.register(other, other == r ? v : 70 + other);
                }
            }
        }
    }

    private static final int[] NO_REGISTERS = {-1, 16, 17, 31, 32, -16, 256, LEAST, LEAST + 5, GREATEST};

    private static void setRefuses() {
        for (int r : NO_REGISTERS) {
            Rig rig = rig("no register");
            rig.refused("set(" + r + ")", NO_INDEX, () -> rig.x.set(r, 77));
        }
        for (Rig rig : new Rig[] {halted(), dead()}) {
            rig.refused("set(16)", NO_INDEX, () -> rig.x.set(16, 1));
            rig.refused("set(-1)", NO_INDEX, () -> rig.x.set(-1, 1));
            rig.with(0, 8).register(0, 8).with(15, 9).register(15, 9);
        }
    }

    private static void registerRefuses() {
        for (int r : NO_REGISTERS) {
            Rig rig = rig("no register");
            rig.refused("register(" + r + ")", NO_INDEX, () -> rig.x.register(r));
        }
        for (Rig rig : new Rig[] {halted(), dead()}) {
            rig.refused("register(16)", NO_INDEX, () -> rig.x.register(16));
            rig.refused("register(-1)", NO_INDEX, () -> rig.x.register(-1));
        }
    }

    private static void setsOneInner() {
        int[] values = {LEAST, -1, 0, 1, 2, GREATEST};
        for (int k : Rig.INNERS) {
            for (int v : values) {
                Rig rig = rig("setInner(" + k + ")");
                for (int other : Rig.INNERS) {
                    rig.inner(other, 70 + other);
                }
                rig.inner(k, v);
                for (int other : Rig.INNERS) {
                    int before = other == 56 ? 1 : 70 + other;
                    rig.hasInner(other, other != k ? before : k == 56 && v != 0 ? 1 : v);
                }
            }
        }
    }

    private static void mappedIs1() {
        int[] values = {1, 2, 3, 4, 256, 65536, 1 << 30, LEAST, -1, GREATEST};
        for (int v : values) {
            rig("MAPPED").inner(56, v).hasInner(56, 1).reach(0, false, 0, -51).inner(56, 0).hasInner(56, 0)
                    .reach(0, false, 0, 0);
        }
    }

    private static final int[] NO_INNERS = {
        -1, 4, 5, 6, 7, 14, 15, 16, 18, 55, 57, 58, 64, 256, 256 + 56, LEAST, LEAST + 8, GREATEST
    };

    private static boolean isInner(int k) {
        return k >= 0 && k < 4 || k > 7 && k < 14 || k == 17 || k == 56;
    }

    private static void setInnerRefuses() {
        for (int k : NO_INNERS) {
            Rig rig = rig("no inner register");
            rig.refused("setInner(" + k + ")", NO_INDEX, () -> rig.x.setInner(k, 1));
        }
        QuadMode x = new QuadMode();
        for (int k = -100; k < 300; k++) {
            int number = k;
            if (isInner(k)) {
                x.setInner(k, 0);
            } else {
                CHECK.throwing("setInner(" + k + ")", NO_INDEX, () -> x.setInner(number, 0));
            }
        }
    }

    private static void innerRefuses() {
        for (int k : NO_INNERS) {
            Rig rig = rig("no inner register");
            rig.refused("inner(" + k + ")", NO_INDEX, () -> rig.x.inner(k));
        }
        QuadMode x = new QuadMode();
        for (int k = -100; k < 300; k++) {
            int number = k;
            if (isInner(k)) {
                CHECK.due("inner(" + k + ")", x.inner(k), 0);
            } else {
                CHECK.throwing("inner(" + k + ")", NO_INDEX, () -> x.inner(number));
            }
        }
    }

    private static void stackOfTheMode() {
        for (int mode = 0; mode < 4; mode++) {
            Rig rig = rig("stacks in mode " + mode).status(mode << 24).register(14, Rig.TOPS[mode]).with(14, 77);
            for (int k = 0; k < 4; k++) {
                rig.hasInner(k, k == mode ? 77 : Rig.TOPS[k]);
            }
            rig.inner(mode, 78).register(14, 78).inner((mode + 1) % 4, 79).register(14, 78);
            rig.status((mode + 1) % 4 << 24).register(14, 79).status(mode << 22).register(14, mode == 0 ? 78 : mode == 3 ? 79 : 1600);
        }
    }

    private static void beginRefuses() {
        for (int b = 0; b < 32; b++) {
            int bit = 1 << b;
            if ((bit & STATUS_BITS) != 0) {
                rig("begin").status(bit).hasStatus(bit).status(STATUS_BITS - bit).hasStatus(STATUS_BITS - bit);
            } else {
                Rig rig = rig("begin").status(0x01C00029);
                rig.refused("begin of bit " + b, NO_ARGUMENT, () -> rig.x.begin(bit));
                rig.refused("begin of bit " + b + " too", NO_ARGUMENT, () -> rig.x.begin(STATUS_BITS | bit));
            }
        }
        Rig rig = rig("begin").status(5);
        rig.refused("begin(-1)", NO_ARGUMENT, () -> rig.x.begin(-1));
        rig.refused("begin(least)", NO_ARGUMENT, () -> rig.x.begin(LEAST));
        rig.refused("begin(greatest)", NO_ARGUMENT, () -> rig.x.begin(GREATEST));
    }

    /** Only bits are looked at: PREVIOUS may be less than MODE here. */
    private static void beginTakesAll() {
        for (int modes = 0; modes < 16; modes++) {
            rig("begin").status(modes << 22).hasStatus(modes << 22);
        }
    }

    private static void theStatus() {
        rig("new").hasStatus(0);
        Rig rig = rig("status").program(26, 0x51, 3).status(0x01C00020).hasStatus(0x01C00020).run(1).hasStatus(0x01C00029);
        rig.refused("begin", NO_ARGUMENT, () -> rig.x.begin(-1));
        rig.run(1).hasStatus(0x00400000);
        halted().hasStatus(0).status(7).hasStatus(7);
        dead().hasStatus(0).status(7).hasStatus(7);
    }

    private static void neitherHaltedNorDead() {
        Rig halted = halted();
        halted.refused("begin(16)", NO_ARGUMENT, () -> halted.x.begin(16));
        halted.refused("run(1)", NO_STATE, () -> halted.x.run(1));
        halted.status(0).state(0, 0).state(1, 1).register(15, 129).run(1).state(0, 1).state(1, 2);
        Rig dead = dead();
        dead.refused("begin(64)", NO_ARGUMENT, () -> dead.x.begin(64));
        dead.refused("run(1)", NO_STATE, () -> dead.x.run(1));
        dead.status(0).state(0, 0).state(1, 1).state(2, 4).state(3, 1).run(1).state(0, 2).state(1, 2).state(3, 2);
        dead.inner(56, 0).state(0, 2).status(0).run(1).state(0, 1).state(1, 3).state(3, 2);
    }

    private static void notOneTo200() {
        int[] bad = {0, -1, 201, 202, 256 + 1, -200, LEAST, LEAST + 1, GREATEST};
        for (int n : bad) {
            Rig rig = rig("run");
            rig.refused("run(" + n + ")", NO_ARGUMENT, () -> rig.x.run(n));
            rig.run(1).state(1, 1);
        }
        rig("run(1)").program(48, 0xFE).run(1).state(1, 1);
        rig("run(200)").program(48, 0xFE).run(200).state(1, 200).run(199).state(1, 399);
    }

    private static void haltedOrDead() {
        for (Rig rig : new Rig[] {halted(), dead()}) {
            rig.refused("run(1)", NO_STATE, () -> rig.x.run(1));
            rig.refused("run(200)", NO_STATE, () -> rig.x.run(200));
            // Wrong whatever the state is.
            rig.refused("run(0)", NO_ARGUMENT, () -> rig.x.run(0));
            rig.refused("run(201)", NO_ARGUMENT, () -> rig.x.run(201));
        }
    }

    /** An exception is no instruction: what its handler does comes with the next. */
    private static void exceptionsAreNoInstructions() {
        Rig rig = rig("BREAK").program(3, 1, 1).bytes(1096, 3);
        rig.run(1).state(1, 1).register(15, 1096).state(3, 1).run(1).state(1, 2).register(15, 1096).state(3, 2);
        rig.run(5).state(1, 7).state(3, 7).hasInner(0, 1600 - 7 * 8);
        rig("up to n").program(1, 1, 1, 1, 0).run(3).state(0, 0).state(1, 3).register(15, 131).run(200, 2).state(0, 1)
                .state(1, 5);
        rig("200 and no more").program(26, 0x51, 48, 0xFC).run(200).register(1, -100).state(1, 200).register(15, 128);
    }

    private static void howMany() {
        for (int before = 0; before < 4; before++) {
            int[] program = {1, 1, 1, 1};
            program[before] = 0;
            rig("HALT behind " + before).program(program).run(4, before + 1).state(0, 1).state(1, before + 1)
                    .register(15, 129 + before);
            program[before] = 3;
            rig("BREAK behind " + before).program(program).bytes(1096, 1, 1, 1, 1).run(4, 4).state(0, 0).state(1, 4)
                    .state(3, 1).register(15, 1099 - before);
            Rig dead = Rig.mapped(CHECK, "DEAD behind " + before).bytes(128, program).inner(0, 0);
            dead.run(4, before + 1).state(0, 2).state(1, before + 1).state(2, 6).state(3, 1)
                    .register(15, Rig.SYSTEM + before);
        }
        rig("HALT is the last of them").program(1, 0).run(2).state(0, 1);
        rig("HALT is the next").program(1, 0).run(1).state(0, 0).run(1).state(0, 1);
    }

    private static void reachRefuses() {
        int[] bad = {-1, 4, 5, 7, 8, LEAST, GREATEST};
        for (int mode : bad) {
            Rig rig = rig("reach in mode " + mode);
            rig.refused("reach, read", NO_ARGUMENT, () -> rig.x.reach(0, false, mode));
            rig.refused("reach, write", NO_ARGUMENT, () -> rig.x.reach(0, true, mode));
            Rig mapped = Rig.mapped(CHECK, "reach in mode " + mode);
            mapped.refused("reach, read", NO_ARGUMENT, () -> mapped.x.reach(0, false, mode));
            mapped.refused("reach, write", NO_ARGUMENT, () -> mapped.x.reach(-1, true, mode));
        }
        for (int mode = 0; mode < 4; mode++) {
            Rig.mapped(CHECK, "reach").reach(0, true, mode, 512).reach(-1, true, mode, -55);
        }
    }

    /** reach goes by the mode that it is told, not by that of the status. */
    private static void reachInAMode() {
        Rig rig = Rig.mapped(CHECK, "mode told").longAt(1288, 0xA8000008);
        for (int mode = 0; mode < 4; mode++) {
            rig.status(mode << 24 | mode << 22).reach(0, false, 1, 512).reach(0, false, 2, -50).reach(0, true, 2, -54);
        }
    }

    private static void reachChangesNothing() {
        Rig rig = Rig.mapped(CHECK, "reach").status(47);
        int[] addresses = {0, 128, 192, Rig.ONE, Rig.ONE + 36 * 64, Rig.ONE + 37 * 64, Rig.SYSTEM, Rig.SYSTEM + 192, -1};
        for (int address : addresses) {
            rig.x.reach(address, true, 3);
            rig.x.reach(address, false, 3);
        }
        rig.hasStatus(47).state(0, 0).state(1, 0).state(2, 0).state(3, 0).register(15, Rig.SYSTEM).hasInner(0, 1600);
        rig.look(1024, Rig.OPEN + 2).look(1028, Rig.OPEN + 20).look(1032, Rig.OPEN + 21).look(1036, Rig.SHUT + 3);
        rig.look(1288, Rig.OPEN + 8).look(1292, Rig.OPEN + 9).look(1296, Rig.SHUT + 10).look(512, 0);
        Rig dead = dead();
        dead.reach(0, false, 0, -51).state(0, 2).state(3, 1);
    }

    private static void codedFaults() {
        Rig rig = Rig.mapped(CHECK, "reach").longAt(1292, 9);
        rig.reach(0, false, 3, 512).reach(64, false, 3, -50).reach(192, false, 3, -51).reach(64, true, 3, -54)
                .reach(192, true, 3, -55).reach(64, false, 0, -60).reach(64, true, 0, -64).reach(ONE + 36 * 64, false, 0, -62)
                .reach(ONE + 36 * 64, true, 0, -66).reach(ONE + 37 * 64, false, 0, -53).reach(ONE + 37 * 64, true, 0, -57);
    }

    private static void whatItIs() {
        rig("well").state(0, 0).program(1).run(1).state(0, 0).state(1, 1);
        halted().state(0, 1).state(1, 1).state(2, 0).state(3, 0);
        dead().state(0, 2).state(1, 1).state(2, 4).state(3, 1);
        rig("by a fault").program(3).run(1).state(0, 0).state(1, 1);
    }

    private static void noSuchState() {
        int[] none = {-1, 4, 5, -4, 256, LEAST, LEAST + 1, GREATEST};
        for (Rig rig : new Rig[] {rig("new"), halted(), dead()}) {
            for (int what : none) {
                rig.state(what, -1);
            }
        }
    }

    private static void stateCounts() {
        Rig rig = rig("state").program(3).bytes(1096, 71).bytes(1016, 0);
        rig.state(2, 0).state(3, 0).run(1).state(2, 6).state(3, 1).run(1).state(2, 1).state(3, 2).state(0, 0);
        rig.run(1).state(0, 1).state(1, 3).state(2, 1).state(3, 2);
        rig.status(0).state(0, 0).state(1, 3).state(2, 1).state(3, 2);
    }

    public static void main(String[] args) {
        Words words = new Words(CHECK);
        words.hold("at most 512 calls after it has been made", PromisesTest::the512thCall);
        words.hold("Storage, registers and inner registers are 0", PromisesTest::storageIs0);
        words.hold("registers and inner registers are 0", PromisesTest::registersAre0);
        words.hold("the status is 0; it is not HALTED, not DEAD.", PromisesTest::newAndWell);
        words.hold("A new object", PromisesTest::objectsShareNothing);
        words.hold("Eight bytes of storage from an address on become those of word, the lowest first.",
                PromisesTest::eightBytes);
        words.hold("its addresses are taken mod 2048", PromisesTest::fillRoundTheEnd);
        words.hold("The long at an address in storage.", PromisesTest::lookRoundTheEnd);
        words.hold("Register r becomes v.", PromisesTest::setsOneRegister);
        words.hold("IndexOutOfBoundsException: there is none such (0 .. 15).", PromisesTest::setRefuses);
        words.hold("Register r. IndexOutOfBoundsException likewise.", PromisesTest::registerRefuses);
        words.hold("An inner register becomes v", PromisesTest::setsOneInner);
        words.hold("(it is MAPPED: 1 if v isn't 0)", PromisesTest::mappedIs1);
        words.hold("IndexOutOfBoundsException: there is none such.", PromisesTest::setInnerRefuses);
        words.hold("An inner register. IndexOutOfBoundsException likewise.", PromisesTest::innerRefuses);
        words.hold("Each mode has a stack register; R14 is that of the mode that is.", PromisesTest::stackOfTheMode);
        words.hold("IllegalArgumentException: it has bits that must be 0.", PromisesTest::beginRefuses);
        words.hold("The status becomes this", PromisesTest::beginTakesAll);
        words.hold("`int status()`: The status.", PromisesTest::theStatus);
        words.hold("the machine is neither HALTED nor DEAD", PromisesTest::neitherHaltedNorDead);
        words.hold("IllegalArgumentException: n is not 1 .. 200.", PromisesTest::notOneTo200);
        words.hold("IllegalStateException: it is HALTED or DEAD.", PromisesTest::haltedOrDead);
        words.hold("At most n instructions (with what exceptions they make)", PromisesTest::exceptionsAreNoInstructions);
        words.hold("how many; one that HALTs counts, one that leaves the machine DEAD, too", PromisesTest::howMany);
        words.hold("IllegalArgumentException: mode is not 0 .. 3.", PromisesTest::reachRefuses);
        words.hold("for reading or writing in a mode", PromisesTest::reachInAMode);
        words.hold("(Nothing is changed.)", PromisesTest::reachChangesNothing);
        words.hold("that, else -10 - the number of the fault * 10 - its flag.", PromisesTest::codedFaults);
        words.hold("what 0: 0, 1 HALTED, 2 DEAD; 1: instructions done in all", PromisesTest::whatItIs);
        words.hold("NONE (-1) for another what.", PromisesTest::noSuchState);
        words.hold("the number of the latest exception, 0 if there was none; 3: exceptions in all",
                PromisesTest::stateCounts);
        CHECK.end();
    }
}
