/** Promises 10 and 11: reaching bytes by pages, and its faults. */
public final class PagesTest {
    private static final Check CHECK = new Check();
    private static final int ALL = 0xF8000000;
    private static final int SYSTEM = 0x80000000;
    private static final int ONE = 0x40000000;

    private static Rig rig(String name) {
        return new Rig(CHECK, name);
    }

    /**
     * Region 2: pages 0, 1, 2 at frames 2, 20, 21 and 3 not VALID; region 0: entries at place 8 of its page 1;
     * region 1: entries of its pages from 5 on, of which 5 lies at place 0 of page 2.
     */
    private static Rig mapped(String name) {
        Rig rig = rig(name).inner(12, 1024).inner(13, 4).inner(8, SYSTEM + 72).inner(9, 3).inner(10, SYSTEM + 128 - 20)
                .inner(11, 5);
        rig.longAt(1024, ALL + 2).longAt(1028, ALL + 20).longAt(1032, ALL + 21).longAt(1036, 0x78000003);
        rig.longAt(1288, ALL + 8).longAt(1292, ALL + 9).longAt(1296, 0x78000000 + 10);
        rig.longAt(1344, ALL + 11).longAt(1348, ALL + 12);
        return rig.inner(56, 1).with(15, SYSTEM);
    }

    private static void regions() {
        Rig rig = mapped("regions");
        rig.reach(SYSTEM, false, 0, 128).reach(SYSTEM + 63, true, 3, 191).reach(SYSTEM + 64, false, 1, 1280);
        rig.reach(SYSTEM + 191, false, 2, 1407).reach(SYSTEM + 192, false, 0, -60).reach(SYSTEM + 192, true, 0, -64);
        rig.reach(SYSTEM + 256, false, 0, -51).reach(SYSTEM + 256, true, 0, -55);
        rig.reach(-1, false, 0, -51).reach(0xC0000000, true, 3, -55).reach(0xBFFFFFFF, false, 0, -51);
        rig.reach(0, false, 3, 512).reach(63, true, 0, 575).reach(64, true, 0, 576).reach(128, false, 0, -60);
        rig.reach(128, true, 0, -64).reach(192, false, 0, -51).reach(192, true, 0, -55).reach(ONE - 1, false, 0, -51);
        rig.reach(ONE, false, 0, -51).reach(ONE + 4 * 64 + 63, true, 0, -55).reach(ONE + 5 * 64, false, 0, 704);
        rig.reach(ONE + 6 * 64 + 1, true, 3, 769);
        // The entry of page 37 of region 1 lies at SYSTEM + 108 + 148 = 256, which isn't there.
        rig.reach(ONE + 36 * 64, false, 0, -62).reach(ONE + 36 * 64, true, 0, -66);
        rig.reach(ONE + 37 * 64, false, 0, -53).reach(ONE + 37 * 64, true, 0, -57);
    }

    private static void limits() {
        Rig rig = mapped("limits");
        // Without signs: a limit below 0 is above every page.
        rig.longAt(1300, ALL + 30).reach(193, false, 0, -51).inner(9, -1).reach(193, false, 0, 1921);
        rig.inner(9, Integer.MIN_VALUE).reach(193, false, 0, 1921).inner(9, 0).reach(0, false, 0, -51).inner(9, 3);
        rig.inner(11, -1).reach(ONE + 5 * 64, false, 0, -51).reach(Integer.MAX_VALUE, false, 0, -51);
        rig.inner(11, 0).reach(ONE + 5 * 64, false, 0, 704).inner(11, 6).reach(ONE + 5 * 64, false, 0, -51);
        rig.inner(13, -1).longAt(1040, ALL + 31).reach(SYSTEM + 256, false, 0, 1984).reach(SYSTEM + 256, true, 0, 1984);
        rig.inner(13, 0).reach(SYSTEM, false, 0, -51).reach(0, false, 0, -53).reach(0, true, 0, -57);
        rig.inner(13, 1).reach(SYSTEM, false, 0, 128).reach(0, false, 0, -53).inner(13, 2).reach(0, false, 0, 512);
        // The greatest page: its entry is BS + 4 * (2^24 - 1), mod 2048.
        rig.inner(13, -1).longAt(1020, ALL + 7).reach(0xBFFFFFC1, false, 0, 449);
        // The entry's own address must be of region 2, on whichever side it leaves it.
        int[] bases = {0, 64, ONE, 0xC0000000, -4, 0x7FFFFFFC};
        for (int base : bases) {
            rig.inner(8, base).inner(9, 3).reach(0, false, 0, -53).reach(0, true, 0, -57);
        }
        rig.inner(8, 0x7FFFFFFC).longAt(1024, ALL + 2).longAt(128, ALL + 9).reach(64, false, 0, 576);
    }

    private static void entries() {
        Rig rig = mapped("entries");
        // Only five bits are the frame; those between mean nothing.
        rig.longAt(1024, 0xFBFFFFE2).reach(SYSTEM + 5, false, 3, 133);
        // An entry of region 0 goes on behind its page in storage, not by pages.
        rig.inner(8, SYSTEM + 126).longAt(1342, ALL + 13).reach(1, false, 0, 833);
        // BS needs be no multiple of 4, and its table may go round the end of storage.
        rig.inner(12, 2046).longAt(2046, ALL + 6).reach(SYSTEM, false, 0, 384);
        rig.inner(12, -2).reach(SYSTEM, true, 0, 384);
        // No rights are asked of the entry of the entry.
        Rig other = mapped("no rights there").longAt(1028, 0x80000000 + 20);
        other.reach(0, true, 3, 512).reach(SYSTEM + 64, false, 1, -50).reach(SYSTEM + 64, false, 0, 1280);
        // VALID is asked of it, before the rights of the page, and those before the page's VALID.
        other.longAt(1288, 0).longAt(1028, 20).reach(0, false, 3, -62).reach(0, true, 3, -66);
        other.longAt(1028, 0x80000000 + 20).reach(0, false, 3, -50).reach(0, false, 0, -60).reach(0, true, 0, -64);
    }

    private static void rights() {
        for (int reader = 0; reader < 4; reader++) {
            for (int writer = 0; writer < 4; writer++) {
                for (int mode = 0; mode < 4; mode++) {
                    Rig rig = rig("rights " + reader + " " + writer).inner(12, 1024).inner(13, 1).inner(56, 1);
                    rig.longAt(1024, 0x80000003 | reader << 27 | writer << 29);
                    rig.reach(SYSTEM, false, mode, mode <= reader ? 192 : -50);
                    rig.reach(SYSTEM, true, mode, mode <= writer && writer <= reader ? 192 : -54);
                }
            }
        }
    }

    private static void nothingIsChanged() {
        Rig rig = mapped("reach changes nothing").reach(0, true, 0, 512).look(1288, ALL + 8).look(1028, ALL + 20);
        rig.reach(SYSTEM + 192, true, 0, -64).state(2, 0).state(3, 0).state(0, 0).register(15, SYSTEM);
    }

    private static void modified() {
        int move = 14;
        mapped("written").bytes(128, move, 5, 0x61).with(1, 62).run(1).look(574, 5).look(1288, ALL + 8 + (1 << 26))
                .look(1292, ALL + 9 + (1 << 26)).look(1028, ALL + 20).look(1024, ALL + 2);
        mapped("read").bytes(128, move, 0x61, 0x50).with(1, 60).run(1).look(1288, ALL + 8).look(1024, ALL + 2);
        mapped("a byte written").bytes(128, 13, 5, 0x61).with(1, 63).run(1).look(1288, ALL + 8 + (1 << 26)).look(1292, ALL + 9);
        mapped("a push").bytes(128, 44, 5).inner(0, SYSTEM + 132).run(1).look(1344, 5).look(1032, ALL + 21 + (1 << 26))
                .look(1028, ALL + 20).look(1036, 0x78000003);
        // All bytes must be reached before one is written.
        mapped("half of it").bytes(128, move, 0x52, 0x61).with(2, -1).with(1, 126).inner(0, SYSTEM + 100).longAt(638, 0)
                .run(1).state(2, 5).look(638, 0).look(1292, ALL + 9).look(1280 + 20, 4).look(1280 + 24, 128)
                .look(1280 + 28, SYSTEM);
        mapped("the last byte before a page that isn't VALID").bytes(128, 13, 5, 0x61).with(1, 127).run(1).state(3, 0)
                .look(636, 5 << 24);
        // Entry and byte may be at 0 in storage.
        rig("at 0").inner(12, 0).inner(13, 3).longAt(0, ALL + 3).longAt(4, ALL + 2).longAt(8, ALL).with(15, SYSTEM + 64)
                .bytes(128, 14, 5, 0x61, 14, 6, 0x62).with(1, SYSTEM).with(2, SYSTEM + 128).inner(56, 1).run(1).look(192, 5)
                .look(0, ALL + 3 + (1 << 26)).run(1).look(0, 6).state(3, 0);
        // Unmapped, nothing is marked, though an entry was found before.
        mapped("unmapped again").bytes(128, 20, 0x61, 20, 0x61).with(1, 0).run(1).longAt(1288, ALL).inner(56, 0).with(15, 130)
                .run(1).look(1288, ALL);
        rig("unmapped").program(move, 5, 0x61).with(1, 600).inner(12, 1024).longAt(1024, ALL).run(1).look(1024, ALL);
    }

    /** A long written over the very entry by which it is written. */
    private static void overItsEntry() {
        // Page 0 of region 2 at frame 16: its own entry lies in it, at its place 0.
        Rig rig = rig("over its entry").inner(12, 1024).inner(13, 2).longAt(1024, ALL + 16).longAt(1028, ALL + 2);
        rig.bytes(128, 14, 0x51, 0x62).with(1, 0x01020304).with(2, SYSTEM).with(15, SYSTEM + 64).inner(56, 1).run(1);
        rig.look(1024, 0x01020304);
        // One byte short of its end: the last byte written is followed by no other mark.
        Rig short1 = rig("beside its entry").inner(12, 1024).inner(13, 2).longAt(1024, ALL + 16).longAt(1028, ALL + 2);
        short1.bytes(128, 13, 0x51, 0x62).with(1, 0x91).with(2, SYSTEM + 3).with(15, SYSTEM + 64).inner(56, 1).run(1);
        short1.look(1024, 0x91000010);
        // The highest byte of the entry first, three bytes behind it: each sets the mark anew.
        Rig from3 = rig("from its highest byte on").inner(12, 1024).inner(13, 2).longAt(1024, ALL + 16).longAt(1028, ALL + 2);
        from3.bytes(128, 14, 0x51, 0x62).with(1, 0x11223390).with(2, SYSTEM + 3).with(15, SYSTEM + 64).inner(56, 1).run(1);
        from3.look(1024, 0x94000010).look(1027, 0x11223394);
    }

    private static void faults() {
        int[][] reads = {{126, 5, 128, 0}, {SYSTEM + 190, 5, SYSTEM + 192, 0}, {190 + 64, 4, 254, 1}, {-2, 4, -2, 1},
            {ONE + 36 * 64, 5, ONE + 36 * 64, 2}, {ONE + 37 * 64 + 9, 4, ONE + 37 * 64 + 9, 3}};
        for (int[] r : reads) {
            for (int w = 0; w < 2; w++) {
                Rig rig = mapped("fault at " + r[0]);
                rig.bytes(128, w == 0 ? 21 : 20, 0x61).with(1, r[0]).status(5);
                int top = SYSTEM + 128;
                rig.inner(0, top).run(1).state(2, r[1]).state(3, 1).state(0, 0).hasInner(0, top - 16);
                rig.look(1344 - 4, 5).look(1344 - 8, SYSTEM).look(1344 - 12, r[2]).look(1344 - 16, r[3] + 4 * w);
                rig.register(15, 1000 + 16 * r[1]).hasStatus(0).register(1, r[0]);
            }
        }
        // Code and specifiers are read by the mode: here it may not.
        Rig rig = mapped("code in a mode that may not").longAt(1024, 0x88000002 | 2 << 29).bytes(128, 1, 0x50);
        rig.inner(0, SYSTEM + 128).status(0x02800000).run(1).state(2, 4).look(1328, 0).look(1332, SYSTEM)
                .look(1336, SYSTEM).look(1340, 0x02800000).hasStatus(0x00800000);
        // The code's bytes go over the end of page 0, and page 1 isn't VALID.
        Rig end = mapped("code over a page's end").bytes(190, 14, 0x8F).longAt(1028, 20 + 0x78000000);
        end.with(15, SYSTEM + 62).inner(0, SYSTEM + 192).run(1).state(2, 5).look(1408 - 4, 0).look(1408 - 8, SYSTEM + 62)
                .look(1408 - 12, SYSTEM + 64).look(1408 - 16, 0);
        Rig m = mapped("m is read by reading, written by writing").longAt(1288, 0xA0000008).bytes(128, 25, 0x81).with(1, 0);
        m.inner(0, SYSTEM + 128).run(1).state(2, 4).look(1328, 4).look(1332, 0).look(512, 0).register(1, 0);
    }

    private static void probed(String name, int entry, int first, int length, int address, int status, boolean may) {
        Rig rig = mapped("probe: " + name).longAt(1288, entry).bytes(128, 69, 0x51, 0x52, 0x63);
        rig.with(1, first).with(2, length).with(3, address).status(status);
        rig.run(1).hasStatus(status & ~15 | (may ? 4 : 0)).register(15, SYSTEM + 4).state(3, 0);
    }

    private static void probes() {
        int open = ALL + 8;
        probed("there", open, 0, 1, 0, 15, true);
        probed("both there", open, 0, 128, 0, 0, true);
        probed("not VALID, all the same", open, 0, 64, 128, 11, true);
        probed("second not there", open, 0, 193, 0, 15, false);
        probed("second there", open, 0, 192, 0, 15, true);
        probed("first not there", open, 0, -10, 192, 15, false);
        probed("of 0 bytes: the one before", open, 0, 0, 64, 15, true);
        probed("of 0 bytes at 0: the one before", open, 0, 0, 0, 15, false);
        probed("entry not there", open, 0, 1, ONE + 37 * 64, 15, false);
        probed("the middle isn't looked at", open, 0, 0x80000000 + 1, 0, 15, true);
        // Rights by the greater one of PREVIOUS and the first's two bits.
        int one = 0x88000008;
        probed("mode 1", one, 1, 1, 0, 0, true);
        probed("mode 2", one, 2, 1, 0, 0, false);
        probed("mode 5 & 3", one, 5, 1, 0, 0, true);
        probed("mode 6 & 3", one, 6, 1, 0, 0, false);
        probed("PREVIOUS 1", one, 0, 1, 0, 1 << 22, true);
        probed("PREVIOUS 2", one, 0, 1, 0, 2 << 22, false);
        probed("PREVIOUS 2, first 1", one, 1, 1, 0, 2 << 22, false);
        Rig w = mapped("probe for writing").longAt(1288, 0xB8000008);
        for (int mode = 0; mode < 4; mode++) {
            w.bytes(128, 70, 0x51, 1, 0x63).with(1, mode).with(3, 0).status(11).with(15, SYSTEM).run(1)
                    .hasStatus(mode <= 1 ? 4 : 0).look(1288, 0xB8000008);
        }
        w.longAt(1288, 0x38000008).status(0).with(1, 1).with(15, SYSTEM).run(1).hasStatus(4);
        rig("probe of 0 in storage").inner(12, 1024).inner(13, 2).longAt(1024, ALL).longAt(1028, ALL + 2).with(1, SYSTEM)
                .bytes(128, 69, 0, 1, 0x61).with(15, SYSTEM + 64).inner(56, 1).run(1).hasStatus(4).state(3, 0);
        rig("probe when not MAPPED").program(70, 3, 0, 0x61).with(1, -7).run(1).hasStatus(4);
    }

    private static void probesThatFault() {
        for (int code = 69; code <= 70; code++) {
            Rig rig = mapped("probe by an entry that isn't VALID").bytes(128, code, 0, 0x52, 0x63).status(9);
            rig.with(3, ONE + 5 * 64).with(2, 31 * 64 + 8).inner(0, SYSTEM + 128).run(1).state(2, 5).look(1340, 9)
                    .look(1332, ONE + 36 * 64 + 7).look(1328, code == 69 ? 2 : 6);
            // The second is not looked at when the first may not.
            Rig not = mapped("first may not").bytes(128, code, 0, 0x52, 0x63).status(9);
            not.with(3, ONE).with(2, 36 * 64 + 8).run(1).state(3, 0).hasStatus(0);
        }
    }

    public static void main(String[] args) {
        regions();
        limits();
        entries();
        rights();
        nothingIsChanged();
        modified();
        overItsEntry();
        faults();
        probes();
        probesThatFault();
        CHECK.end();
    }
}
