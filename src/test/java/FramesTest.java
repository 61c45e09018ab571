/** Promise 10: CALL FRAME and RET. */
public final class FramesTest {
    private static final Check CHECK = new Check();
    private static final int IV = 32;

    private static Rig rig(String name) {
        return new Rig(CHECK, name);
    }

    private static Rig called(String name, int top, int mask, int status) {
        Rig rig = rig(name).program(68, 0x5A, 0x9F, 0xBC, 2, 0, 0).bytes(700, mask, mask >> 8).status(status).with(14, top);
        for (int r = 0; r < 12; r++) {
            rig.with(r, 100 + r);
        }
        return rig.with(10, 2).with(12, 512).with(13, 513);
    }

    private static void enters() {
        for (int a = 0; a < 4; a++) {
            Rig rig = called("A " + a, 1604 + a, 0x0805, 15).run(1);
            rig.look(1600 + a, 2);
            rig.look(1596, 111).look(1592, 102).look(1588, 100).look(1584, 135).look(1580, 513).look(1576, 512);
            rig.look(1572, a << 30 | 1 << 29 | 0x0805 << 16 | 15).look(1568, 0);
            rig.register(14, 1568).register(13, 1568).register(12, 1600 + a).register(15, 702).hasStatus(0);
        }
        called("all registers", 1604, 0x0FFF, IV).run(1).register(14, 1600 - 48 - 20).look(1596, 111).look(1552, 100)
                .look(1556, 101).hasStatus(0).look(1536, 1 << 29 | 0x0FFF << 16 | IV);
        called("none, IV", 1604, 0x4000, 0x01C0000F).run(1).register(14, 1580).hasStatus(0x01C00000 | IV)
                .look(1584, 1 << 29 | 15).hasInner(1, 1580).hasInner(0, 1600);
        called("the 0 pushed last", 1604, 0, 0).longAt(1580, -1).run(1).look(1580, 0);
    }

    private static void refuses() {
        int[] bad = {0x1000, 0x2000, 0x8000, 0xB000};
        for (int mask : bad) {
            Rig rig = called("mask " + mask, 1500, mask, IV | 1);
            rig.run(1).excepted(2, 1).register(12, 512).register(13, 513).register(14, 1492).look(1496, IV | 1)
                    .look(1492, 128);
        }
        // What was pushed before the mask was looked at stays in storage.
        called("what is pushed stays", 1500, 0x8000, 0x03C00000).run(1).excepted(2, 1).look(1496, 2).hasInner(3, 1500)
                .hasStatus(0x00C00000);
        rig("no register for the address").program(68, 1, 0x51).faults(3);
    }

    private static void leaves() {
        for (int a = 0; a < 4; a++) {
            Rig rig = called("there and back, " + a, 1604 + a, 0x0A05, 13).bytes(702, 4).run(1);
            for (int r = 0; r < 12; r++) {
                rig.with(r, -r);
            }
            rig.run(1).register(14, 1604 + a + 8).register(12, 512).register(13, 513).register(15, 135).hasStatus(13);
            rig.register(0, 100).register(1, -1).register(2, 102).register(3, -3).register(8, -8).register(9, 109)
                    .register(10, -10).register(11, 111);
        }
        called("IV comes back", 1604, 0, 0x03C0002F).bytes(702, 4).run(2).hasStatus(0x03C0002F);
        called("IV goes", 1604, 0x4000, 0x03C00005).bytes(702, 4).run(2).hasStatus(0x03C00005);
        // The count of arguments is the lowest byte alone.
        called("count", 1604, 0, 0).with(10, 0x1FF).bytes(702, 4).run(2).register(14, 1604 + 4 * 255);
        // Without bit 29 nothing more is popped, and bit 28 means nothing.
        rig("by hand").program(4).with(13, 600).longAt(604, 0x50020005).longAt(608, 12).longAt(612, 13).longAt(616, 15)
                .longAt(620, 1).longAt(624, 77).status(0x00C0002A).run(1).register(12, 12).register(13, 13).register(15, 15)
                .register(1, 1).register(0, 0).register(14, 625).hasStatus(0x00C00005);
        rig("A with arguments").program(4).with(13, 600).longAt(604, 0xE0000020).longAt(608, 12).longAt(612, 13)
                .longAt(616, 15).bytes(620, 9, 9, 9, 3, 1, 1, 1).run(1).register(14, 639).hasStatus(32);
    }

    private static void refusesToLeave() {
        for (int b = 0; b < 16; b++) {
            Rig rig = rig("T with bit " + b).program(4).with(13, 600).with(12, 5).with(1, 9)
                    .longAt(604, 1 << 17 | 1 << b).longAt(620, 44);
            if (b < 4 || b == 5) {
                rig.run(1).state(3, 0).hasStatus(1 << b).register(1, 44);
            } else {
                rig.faults(2);
            }
        }
    }

    /** T is looked at before the others are popped. */
    private static void orderOfFaults() {
        Rig rig = rig("T first").inner(12, 1024).inner(13, 2).longAt(1024, 0xF8000002).longAt(1028, 0x78000003);
        rig.bytes(128, 4).inner(0, 0x80000020).with(15, 0x80000000).with(13, 0x80000038).longAt(188, 16).inner(56, 1);
        rig.run(1).state(2, 2).hasInner(0, 0x80000018);
        Rig other = rig("then the others").inner(12, 1024).inner(13, 2).longAt(1024, 0xF8000002).longAt(1028, 0x78000003);
        other.bytes(128, 4).inner(0, 0x80000020).with(15, 0x80000000).with(13, 0x80000038).longAt(188, 0).inner(56, 1);
        other.run(1).state(2, 5).hasInner(0, 0x80000010).look(128 + 16, 0).look(128 + 20, 0x80000040)
                .register(13, 0x80000038);
    }

    /** The mask is two bytes: here the last of a page, and the next isn't VALID. */
    private static void maskAtTheEnd() {
        Rig rig = rig("mask at a page's end").inner(12, 1024).inner(13, 2).longAt(1024, 0xF8000002).longAt(1028, 0x78000003);
        rig.bytes(128, 68, 0, 0x61).bytes(190, 2, 0x40).with(1, 0x8000003E).with(15, 0x80000000).inner(0, 0x80000038);
        rig.inner(56, 1).run(1).state(3, 0).register(15, 0x80000040).hasStatus(IV).register(14, 0x8000001C);
    }

    public static void main(String[] args) {
        enters();
        refuses();
        leaves();
        refusesToLeave();
        orderOfFaults();
        maskAtTheEnd();
        CHECK.end();
    }
}
