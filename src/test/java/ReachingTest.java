/** Promises 10 and 11: a test for each sentence on pages and entries that names an edge. */
public final class ReachingTest {
    private static final Check CHECK = new Check();
    private static final int LEAST = Integer.MIN_VALUE;
    private static final int GREATEST = Integer.MAX_VALUE;
    private static final int SYSTEM = Rig.SYSTEM;
    private static final int ONE = Rig.ONE;
    private static final int OPEN = Rig.OPEN;
    private static final int SHUT = Rig.SHUT;
    private static final int MODIFIED = Rig.MODIFIED;
    private static final int PAGES = 1 << 24;
    private static final int MOVE_BYTE = 13, MOVE = 14, CLEAR = 20, TEST = 21, TEST_BYTE = 22, INCREMENT = 25, PUSH = 44;

    private static Rig rig(String name) {
        return new Rig(CHECK, name);
    }

    private static Rig mapped(String name) {
        return Rig.mapped(CHECK, name);
    }

    /** Where the address of the first byte of a page of a region is. */
    private static int pageAt(int region, int page) {
        return region << 30 | page << 6;
    }

    /**
     * A machine whose only page is this one of a region, at frame 9 (576), with this limit; if it is of region 0 or 1,
     * its entry lies at SYSTEM + 64, which is at 1280, and else at 1024.
     */
    private static Rig only(int region, int page, int limit) {
        Rig rig = rig("region " + region + ", page " + page + ", limit " + limit);
        if (region == 2) {
            rig.inner(12, 1024 - 4 * page).inner(13, limit).longAt(1024, OPEN + 9);
        } else {
            rig.inner(12, 1024).inner(13, 2).longs(1024, 0, OPEN + 20).longAt(1280, OPEN + 9);
            rig.inner(region == 0 ? 8 : 10, SYSTEM + 64 - 4 * page).inner(region == 0 ? 9 : 11, limit);
        }
        return rig.inner(56, 1);
    }

    private static void unmapped() {
        int[] addresses = {0, 1, 2047, 2048, 2049, -1, -2048, -2049, LEAST, GREATEST, ONE, SYSTEM + 5, 0xC0000000};
        for (int mode = 0; mode < 4; mode++) {
            Rig rig = rig("not MAPPED").inner(13, 0);
            for (int address : addresses) {
                int place = Math.floorMod(address, 2048);
                rig.reach(address, false, mode, place).reach(address, true, mode, place);
            }
        }
        // What an instruction reaches goes round the end, too.
        rig("read round the end").program(MOVE, 0x61, 0x50).with(1, -2).bytes(2046, 1, 2).bytes(0, 3, 4).passes()
                .register(0, 0x04030201);
        rig("written round the end").program(MOVE, 0x50, 0x61).with(0, 0x04030201).with(1, 2045).passes()
                .look(2045, 0x04030201).look(0, 4);
        rig("pushed round the end").program(PUSH, 0x50).with(0, 0x04030201).with(14, 2).passes().register(14, -2)
                .look(2046, 0x04030201).look(0, 0x0403);
    }

    private static void partsOfAnAddress() {
        for (int bit = 0; bit < 6; bit++) {
            only(2, 0, 1).reach(SYSTEM + (1 << bit), false, 0, 576 + (1 << bit));
        }
        for (int region = 0; region < 3; region++) {
            for (int bit = 6; bit < 30; bit++) {
                int page = 1 << bit - 6;
                int address = pageAt(region, page);
                int[] limits = {page, page + 1};
                for (int limit : limits) {
                    boolean there = limit == page ? region == 1 : region != 1;
                    only(region, page, limit).reach(address, false, 0, there ? 576 : -51)
                            .reach(address + 63, true, 3, there ? 576 + 63 : -55);
                }
            }
        }
        // Regions meet at these addresses.
        only(0, PAGES - 1, -1).reach(ONE - 1, false, 0, 639).reach(ONE, false, 0, -53);
        only(1, 0, 0).reach(ONE, false, 0, 576).reach(ONE - 1, false, 0, -51);
        only(1, PAGES - 1, 0).reach(GREATEST, false, 0, 639).reach(SYSTEM, false, 0, -60);
        only(2, 0, 1).reach(SYSTEM, false, 0, 576).reach(GREATEST, false, 0, -53);
        only(2, PAGES - 1, -1).reach(0xBFFFFFFF, false, 0, 639).reach(0xC0000000, false, 0, -51);
    }

    private static void limits(int region) {
        int[] limits = {0, 1, 2, 5, PAGES - 1, PAGES, PAGES + 1, GREATEST, LEAST, LEAST + 1, -2, -1};
        for (int limit : limits) {
            int[] pages = {0, 1, limit - 1, limit, limit + 1, PAGES - 1};
            for (int page : pages) {
                if (page >= 0 && page < PAGES) {
                    boolean less = Integer.compareUnsigned(page, limit) < 0;
                    boolean there = less == (region != 1);
                    int address = pageAt(region, page) + 7;
                    only(region, page, limit).reach(address, false, 0, there ? 583 : -51)
                            .reach(address, true, 3, there ? 583 : -55);
                }
            }
        }
    }

    /** The tables of both regions, moved to where only a part of them is in region 2. */
    private static void entriesOfRegion2() {
        for (int region = 0; region < 2; region++) {
            int base = region == 0 ? 8 : 10;
            int first = pageAt(region, 0);
            Rig rig = rig("entries of region 2").inner(12, 1024).inner(13, -1).inner(9, -1).inner(11, 0);
            rig.longAt(1020, OPEN + 21).longAt(1024, OPEN + 20).longs(1280, OPEN + 9, OPEN + 10);
            rig.longs(1344 + 56, OPEN + 11, OPEN + 12).inner(56, 1);
            rig.inner(base, SYSTEM - 8).reach(first, false, 0, -53).reach(first + 64, true, 0, -57);
            rig.reach(first + 128, false, 0, 576).reach(first + 192, true, 0, 640);
            // The last longs of region 2, by its last page; then region 3.
            rig.inner(base, 0xC0000000 - 8).reach(first, false, 0, 704).reach(first + 64, true, 0, 768);
            rig.reach(first + 128, false, 0, -53).reach(first + 192, true, 0, -57);
            // From region 3 on to 0, by wrapping.
            rig.inner(base, -8).reach(first + 64, false, 0, -53).reach(first + 128, true, 0, -57);
            int[] bases = {0, 64, ONE, ONE + 64, GREATEST - 3, 0xC0000000, 0xC0000040, -4};
            for (int b : bases) {
                rig.inner(base, b).reach(first, false, 3, -53).reach(first, true, 3, -57);
            }
        }
    }

    /** An entry that goes over its page's end goes on in storage, be the next page what it may. */
    private static void entryAsAWhole() {
        int[] nexts = {OPEN + 25, SHUT + 25, 0};
        for (int place = 60; place < 64; place++) {
            for (int next : nexts) {
                Rig rig = rig("entry at place " + place).inner(12, 1024).longs(1024, 0, OPEN + 20).longAt(1032, next);
                rig.inner(8, SYSTEM + 64 + place).inner(9, 1).inner(13, 3).fill(1600, 0L);
                rig.longAt(1280 + place, OPEN + 13).inner(56, 1).reach(5, true, 3, 837);
                rig.inner(13, 2).reach(5, true, 3, 837).inner(13, 1).reach(5, true, 3, -57);
            }
            rig("entry round the end, " + place).inner(12, 1024).longs(1024, 0, OPEN + 31).inner(13, 2)
                    .inner(8, SYSTEM + 64 + place).inner(9, 1).longAt(1984 + place, OPEN + 13).inner(56, 1)
                    .reach(5, true, 3, 837);
        }
        // Its last byte, where MODIFIED is, lies behind the page's end.
        rig("marked behind the page").inner(12, 1024).longs(1024, OPEN + 2, OPEN + 20).inner(13, 2).inner(8, SYSTEM + 127)
                .inner(9, 1).longAt(1343, OPEN + 13).bytes(128, CLEAR, 0x61).with(1, 0).with(15, SYSTEM).inner(56, 1)
                .passes().look(1343, OPEN + 13 + MODIFIED).look(1347, 0);
    }

    /** The table of region 2 is in storage, round its end and at any place. */
    private static void tableInStorage() {
        int[] tables = {0, 1, 2044, 2045, 2046, 2047, -4, -3, 2048, LEAST, LEAST + 2047, GREATEST};
        for (int table : tables) {
            rig("BS " + table).inner(12, table).inner(13, 2).longs(table, OPEN + 6, OPEN + 7).inner(56, 1)
                    .reach(SYSTEM + 1, false, 3, 385).reach(SYSTEM + 65, true, 3, 449);
        }
        rig("BS that wraps").inner(12, GREATEST - 3).inner(13, 2).longAt(2044, OPEN + 6).longAt(0, OPEN + 7).inner(56, 1)
                .reach(SYSTEM, false, 3, 384).reach(SYSTEM + 64, true, 3, 448);
    }

    private static void noRightsThere() {
        for (int rights = 0; rights < 16; rights++) {
            Rig rig = mapped("entry of the entry").longAt(1028, 0x80000014 | rights << 27);
            for (int mode = 0; mode < 4; mode++) {
                rig.reach(0, false, mode, 512).reach(0, true, mode, 512);
            }
        }
    }

    private static void region3() {
        Rig rig = mapped("region 3").inner(9, -1).inner(11, 0).inner(13, -1);
        int[] addresses = {0xC0000000, 0xC0000001, 0xC0000040, 0xE0000000, -64, -1};
        for (int address : addresses) {
            for (int mode = 0; mode < 4; mode++) {
                rig.reach(address, false, mode, -51).reach(address, true, mode, -55);
            }
        }
        rig.inner(9, 0).inner(11, -1).inner(13, 0).reach(-1, false, 0, -51).reach(-1, true, 0, -55);
    }

    private static void frames() {
        for (int frame = 0; frame < 32; frame++) {
            Rig rig = mapped("frame " + frame).longAt(1036, OPEN + frame).reach(SYSTEM + 192, false, 3, 64 * frame)
                    .reach(SYSTEM + 255, true, 3, 64 * frame + 63);
            // Bits 5 .. 25 and MODIFIED mean nothing.
            rig.longAt(1036, OPEN | 0x07FFFFE0 | frame).reach(SYSTEM + 193, true, 3, 64 * frame + 1);
        }
        // The same of the entry of an entry: the entry lies in frame 31, whose bits 5 and above are others'.
        mapped("frame of the entry").longAt(1028, OPEN | 0x07FFFFE0 | 31).longAt(1992, OPEN + 3).reach(1, true, 0, 193);
    }

    private static void readers() {
        for (int reader = 0; reader < 4; reader++) {
            for (int writer = 0; writer < 4; writer++) {
                for (int mode = 0; mode < 4; mode++) {
                    int entry = 0x80000008 | reader << 27 | writer << 29;
                    Rig rig = mapped("reader " + reader + ", writer " + writer).longAt(1288, entry);
                    rig.reach(0, false, mode, mode <= reader ? 512 : -50);
                    // An instruction's own read, in that mode.
                    rig.bytes(128, TEST_BYTE, 0x61).with(1, 0).status(mode << 24).inner(0, SYSTEM + 128).run(1);
                    rig.state(3, mode <= reader ? 0 : 1);
                }
            }
        }
    }

    private static void writers() {
        for (int reader = 0; reader < 4; reader++) {
            for (int writer = 0; writer < 4; writer++) {
                for (int mode = 0; mode < 4; mode++) {
                    int entry = 0x80000008 | reader << 27 | writer << 29;
                    boolean may = mode <= writer && writer <= reader;
                    Rig rig = mapped("reader " + reader + ", writer " + writer).longAt(1288, entry);
                    rig.reach(0, true, mode, may ? 512 : -54);
                    rig.bytes(128, MOVE_BYTE, 5, 0x61).with(1, 0).status(mode << 24).inner(0, SYSTEM + 128).run(1);
                    rig.state(3, may ? 0 : 1).look(512, may ? 5 : 0).look(1288, may ? entry | MODIFIED : entry);
                }
            }
        }
    }

    private static void modifiedIsSet() {
        int[] entries = {OPEN, OPEN | MODIFIED, OPEN | 0x03FFFFE0, 0xB8000000, 0x80000000};
        for (int entry : entries) {
            mapped("marked, region 0").longAt(1288, entry + 8).bytes(128, CLEAR, 0x61).with(1, 3).passes()
                    .look(1288, (entry | MODIFIED) + 8).look(1028, OPEN + 20).look(1292, OPEN + 9);
            mapped("marked, region 1").longAt(1344, entry + 11).bytes(128, CLEAR, 0x61).with(1, ONE + 5 * 64 + 3).passes()
                    .look(1344, (entry | MODIFIED) + 11).look(1032, OPEN + 21).look(1348, OPEN + 12);
            mapped("marked, region 2").longAt(1032, entry + 21).bytes(128, CLEAR, 0x61).with(1, SYSTEM + 160).passes()
                    .look(1032, (entry | MODIFIED) + 21).look(1028, OPEN + 20).look(1036, SHUT + 3);
        }
        mapped("m is written, too").bytes(128, INCREMENT, 0x61).with(1, 3).passes().look(1288, OPEN + 8 + MODIFIED);
        mapped("a write over two pages").bytes(128, CLEAR, 0x61).with(1, 61).passes().look(1288, OPEN + 8 + MODIFIED)
                .look(1292, OPEN + 9 + MODIFIED);
        mapped("up to the page's end").bytes(128, CLEAR, 0x61).with(1, 60).passes().look(1288, OPEN + 8 + MODIFIED)
                .look(1292, OPEN + 9);
        mapped("the last byte").bytes(128, MOVE_BYTE, 9, 0x61).with(1, 63).passes().look(1288, OPEN + 8 + MODIFIED)
                .look(1292, OPEN + 9);
        mapped("reading").bytes(128, TEST, 0x61).with(1, 62).passes().look(1288, OPEN + 8).look(1292, OPEN + 9)
                .look(1024, OPEN + 2).look(1028, OPEN + 20);
        mapped("an address").bytes(128, 42, 0x61, 0x50).with(1, 62).passes().look(1288, OPEN + 8);
        mapped("a probe").bytes(128, 70, 0, 1, 0x61).with(1, 62).passes().hasStatus(4).look(1288, OPEN + 8);
    }

    /** A read and a write of a byte at an address, each ending in this fault with this flag (+ 4 of the write). */
    private static void faultAt(Rig rig, int address, int fault, int flag) {
        rig.reach(address, false, 0, -10 - 10 * fault - flag).reach(address, true, 0, -14 - 10 * fault - flag);
        int top = SYSTEM + 128;
        for (int w = 0; w < 2; w++) {
            rig.bytes(128, w == 0 ? TEST_BYTE : MOVE_BYTE, w == 0 ? 0x61 : 5, 0x61).with(1, address).with(15, SYSTEM);
            rig.inner(0, top).status(9).run(1).state(2, fault).state(3, w + 1).hasInner(0, top - 16).hasStatus(0);
            rig.look(1340, 9).look(1336, SYSTEM).look(1332, address).look(1328, flag + 4 * w).register(1, address);
            rig.register(15, 1000 + 16 * fault);
        }
    }

    private static void pageNotThere() {
        faultAt(mapped("region 0"), 192, 4, 1);
        faultAt(mapped("region 1"), ONE + 4 * 64 + 63, 4, 1);
        faultAt(mapped("region 2"), SYSTEM + 256, 4, 1);
        faultAt(mapped("region 3"), -1, 4, 1);
    }

    private static void entrysPageNotThere() {
        faultAt(mapped("region 0").inner(8, SYSTEM + 256), 5, 4, 3);
        faultAt(mapped("region 0, of region 1").inner(8, ONE + 5 * 64), 5, 4, 3);
        faultAt(mapped("region 1").inner(10, SYSTEM + 256), ONE + 5 * 64, 4, 3);
        faultAt(mapped("region 1, of region 3").inner(10, 0xC0000000), GREATEST, 4, 3);
    }

    private static void modeMayNot() {
        mapped("mode 0 may not write").longAt(1288, 0xA0000008).bytes(128, CLEAR, 0x61).with(1, 9).inner(0, SYSTEM + 128)
                .run(1).state(2, 4).look(1332, 9).look(1328, 4);
        for (int mode = 1; mode < 4; mode++) {
            for (int w = 0; w < 2; w++) {
                // Mode 0 alone may; the fault is pushed by mode 0.
                Rig rig = mapped("mode " + mode).longAt(1288, 0x80000008).inner(0, SYSTEM + 128).status(mode << 24 | 9);
                rig.bytes(128, w == 0 ? TEST_BYTE : MOVE_BYTE, w == 0 ? 0x61 : 5, 0x61).with(1, 7).run(1).state(2, 4);
                rig.look(1340, mode << 24 | 9).look(1336, SYSTEM).look(1332, 7).look(1328, 4 * w).hasStatus(mode << 22);
            }
        }
    }

    private static void entryOfTheEntryNotValid() {
        faultAt(mapped("region 0").inner(8, SYSTEM + 192), 5, 5, 2);
        faultAt(mapped("region 1").inner(10, SYSTEM + 192 - 20), ONE + 5 * 64 + 9, 5, 2);
    }

    private static void entryNotValid() {
        faultAt(mapped("region 0"), 128, 5, 0);
        faultAt(mapped("region 1").longAt(1348, SHUT + 12), ONE + 6 * 64 + 1, 5, 0);
        faultAt(mapped("region 2"), SYSTEM + 255, 5, 0);
    }

    private static void orderOfLooks() {
        // The page isn't there, nor is its entry's page.
        mapped("there before its entry").inner(8, 0).reach(191, false, 3, -53).reach(192, false, 3, -51)
                .reach(191, true, 3, -57).reach(192, true, 3, -55);
        // The entry's page isn't there, nor would its entry be VALID.
        mapped("entry's page before VALID").inner(8, SYSTEM + 252).longAt(1040, 0).reach(0, false, 3, -62)
                .reach(64, false, 3, -53).reach(64, true, 3, -57);
        // The entry's entry isn't VALID, and the entry grants nothing, nor is it VALID.
        mapped("VALID before rights").longAt(1028, 20).longAt(1288, 0).reach(0, false, 3, -62).reach(0, true, 3, -66)
                .longAt(1028, 0x80000014).reach(0, false, 3, -50).reach(0, true, 3, -54).reach(0, false, 0, -60)
                .reach(0, true, 0, -64);
        // Rights before VALID, in region 2 as well.
        mapped("rights before VALID").longAt(1036, 0x08000000).reach(SYSTEM + 192, false, 2, -50)
                .reach(SYSTEM + 192, false, 1, -60).reach(SYSTEM + 192, true, 1, -54).reach(SYSTEM + 192, true, 0, -64);
        mapped("writer above reader, not VALID").longAt(1036, 0x20000000).reach(SYSTEM + 192, true, 0, -54)
                .reach(SYSTEM + 192, false, 0, -60);
    }

    /** Byte k of a long is the first that can't be reached. */
    private static void addressOfTheByte() {
        int[] ends = {128, SYSTEM + 192};
        for (int end : ends) {
            for (int k = 0; k < 4; k++) {
                for (int w = 0; w < 2; w++) {
                    Rig rig = mapped("byte " + k).bytes(128, w == 0 ? TEST : CLEAR, 0x61).with(1, end - k);
                    rig.inner(0, SYSTEM + 128).run(1).state(2, 5).look(1332, end).look(1328, 4 * w).look(1336, SYSTEM);
                }
            }
        }
        // Over the end of a region that isn't there.
        Rig rig = mapped("to region 3").inner(13, -1).longAt(1020, OPEN + 9).bytes(128, TEST, 0x61).with(1, 0xBFFFFFFD);
        rig.inner(0, SYSTEM + 128).run(1).state(2, 4).look(1332, 0xC0000000).look(1328, 1);
        Rig other = mapped("from region 3").bytes(128, CLEAR, 0x61).with(1, -1);
        other.inner(0, SYSTEM + 128).run(1).state(2, 4).look(1332, -1).look(1328, 5);
    }

    private static void lowestFirst() {
        // Both pages can't be reached, each for its own reason.
        Rig rig = mapped("INVALID, then ACCESS").bytes(128, TEST, 0x61).with(1, 190).inner(0, SYSTEM + 128);
        rig.run(1).state(2, 5).look(1332, 190).look(1328, 0);
        Rig other = mapped("ACCESS, then INVALID").longAt(1292, 0x20000009).bytes(128, CLEAR, 0x61).with(1, 126);
        other.inner(0, SYSTEM + 128).run(1).state(2, 4).look(1332, 126).look(1328, 4);
        mapped("over two pages").bytes(128, MOVE, 0x61, 0x50).with(1, 63).bytes(575, 1).bytes(576, 2, 3, 4).passes()
                .register(0, 0x04030201);
    }

    /** Of a byte, only that byte is reached; of a long, no more than its four: the page behind isn't VALID. */
    private static void noByteMore() {
        mapped("a byte read").bytes(128, TEST_BYTE, 0x61).with(1, 127).passes().hasStatus(4);
        mapped("a byte written").bytes(128, MOVE_BYTE, 5, 0x61).with(1, 127).passes().look(636, 5 << 24)
                .look(1292, OPEN + 9 + MODIFIED).look(1296, SHUT + 10);
        // Nor is anything written beside it, where the long before was written, or at the first of storage.
        rig("a byte behind a long").program(MOVE, 0x53, 0x61, MOVE_BYTE, 0x53, 0x62).with(3, 0x44332211).with(1, 700).with(2, 600)
                .passes().look(700, 0x44332211).longAt(700, -1).passes().look(700, -1).look(600, 0x11).look(0, 0);
        rig("a byte alone").program(MOVE_BYTE, 0x53, 0x62).with(3, 0x44332211).with(2, 600).passes().look(600, 0x11).look(0, 0)
                .look(2044, 0);
        mapped("a byte narrowed").bytes(128, 17, 5, 0x61).with(1, 127).passes().look(636, 5 << 24);
        mapped("a long read").bytes(128, TEST, 0x61).with(1, 124).passes();
        mapped("a long written").bytes(128, MOVE, 5, 0x61).with(1, 124).passes().look(636, 5).look(1296, SHUT + 10);
        mapped("a long pushed").bytes(128, PUSH, 5).status(0x03C00000).with(14, 128).passes().look(636, 5);
        mapped("a long popped").bytes(128, 5).status(0x03C00000).with(14, 124).longAt(636, 9).passes().register(15, 9)
                .register(14, 128);
    }

    /** Longs that lie in two regions. */
    private static void overRegions() {
        int last = 4 * (PAGES - 1);
        Rig low = mapped("regions 0 and 1").inner(9, -1).inner(8, SYSTEM + 72 - last).inner(11, 0).inner(10, SYSTEM + 76);
        low.bytes(128, MOVE, 0x52, 0x61).with(2, 0x04030201).with(1, ONE - 2).passes();
        low.look(572, 0x02010000).look(576, 0x0403).look(1288, OPEN + 8 + MODIFIED).look(1292, OPEN + 9 + MODIFIED);
        Rig high = mapped("regions 1 and 2").inner(11, 0).inner(10, SYSTEM + 72 - last);
        high.bytes(128, MOVE, 0x61, 0x50).with(1, GREATEST).bytes(575, 0x77).passes().register(0, 0x50610E77);
    }

    private static void allBytesOrNone() {
        for (int k = 1; k < 4; k++) {
            Rig rig = mapped("all or none").bytes(128, MOVE, 0x52, 0x61).with(2, -1).with(1, 128 - k);
            rig.inner(0, SYSTEM + 128).run(1).state(2, 5).look(636, 0).look(640, 0).look(1292, OPEN + 9)
                    .look(1296, SHUT + 10);
            Rig push = mapped("a push").bytes(128, PUSH, 0x52).status(0x03C00000).with(2, -1).with(14, 132 - k);
            push.inner(0, SYSTEM + 128).run(1).state(2, 5).look(636, 0).look(1292, OPEN + 9).hasInner(3, 132 - k);
        }
        Rig m = mapped("m").longAt(1292, 0x98000009).bytes(128, INCREMENT, 0x61).with(1, 62).status(0x01400000);
        m.longAt(572, -1).inner(0, SYSTEM + 128).run(1).state(2, 4).look(1332, 64).look(1328, 4).look(572, -1)
                .look(576, 0).look(1288, OPEN + 8);
    }

    /** Byte and entry at the first place of storage. */
    private static void atTheFirstOfStorage() {
        Rig rig = rig("at 0").inner(12, 0).inner(13, 3).longs(0, OPEN + 3, OPEN + 2).longAt(8, OPEN).with(15, SYSTEM + 64);
        rig.bytes(128, MOVE, 5, 0x61, MOVE, 6, 0x62, MOVE, 0x62, 0x50).with(1, SYSTEM).with(2, SYSTEM + 128).inner(56, 1);
        rig.reach(SYSTEM + 128, true, 0, 0).reach(SYSTEM + 128, false, 0, 0);
        rig.passes().look(192, 5).look(0, OPEN + 3 + MODIFIED).passes().look(0, 6).passes().register(0, 6);
        rig("an entry of region 0 at 0").inner(12, 1024).inner(13, 2).longs(1024, OPEN + 2, OPEN).inner(8, SYSTEM + 64)
                .inner(9, 1).longAt(0, OPEN + 9).bytes(128, CLEAR, 0x61).with(1, 0).with(15, SYSTEM).inner(56, 1).passes()
                .look(0, OPEN + 9 + MODIFIED);
        // When nothing is MAPPED, nothing is marked, though the byte before had an entry.
        mapped("unmapped again").bytes(128, CLEAR, 0x61, CLEAR, 0x61).with(1, 0).passes().longAt(1288, OPEN).inner(56, 0)
                .with(15, 130).passes().look(1288, OPEN);
        rig("never mapped").program(CLEAR, 0x61).with(1, 600).longs(0, 0, 0).longAt(2044, 0).passes().look(0, 0).look(2, 0)
                .look(2044, 0);
    }

    /** What is written lies on entries: they were found before, and are marked as they stand. */
    private static void foundBefore() {
        // The first two bytes are the low ones of the next page's entry, at 1086; the others go by what it was.
        Rig rig = rig("the next page's entry").inner(12, 1078).inner(13, 3).longs(1078, OPEN + 2, OPEN + 16)
                .longAt(1086, OPEN + 9).bytes(128, MOVE, 0x52, 0x61).with(2, 0x44332211).with(1, SYSTEM + 126)
                .with(15, SYSTEM).inner(56, 1);
        rig.passes().look(1086, 0xFC002211).look(576, 0x4433).look(1082, OPEN + 16 + MODIFIED);
        // A page that holds its own entry: MODIFIED first, then the byte.
        Rig own = rig("its own entry").inner(12, 1024).inner(13, 2).longs(1024, OPEN + 16, OPEN + 2).with(15, SYSTEM + 64);
        own.bytes(128, MOVE_BYTE, 0x52, 0x61).with(2, 0x90).with(1, SYSTEM + 3).inner(56, 1).passes().look(1024, 0x90000010);
        Rig all = rig("all of its own entry").inner(12, 1024).inner(13, 2).longs(1024, OPEN + 16, OPEN + 2).with(15, SYSTEM + 64);
        all.bytes(128, MOVE, 0x52, 0x61).with(2, 0).with(1, SYSTEM).inner(56, 1).passes().look(1024, 0);
        // Its highest byte first: the bytes behind it mark it once more.
        Rig high = rig("its highest byte").inner(12, 1024).inner(13, 2).longs(1024, OPEN + 16, OPEN + 2).with(15, SYSTEM + 64);
        high.bytes(128, MOVE, 0x52, 0x61).with(2, 0).with(1, SYSTEM + 3).inner(56, 1).passes().look(1024, 0x04000010)
                .look(1028, OPEN & 0xFF000000);
    }

    /** An instruction whose byte k lies behind a page's end. */
    private static void fetching() {
        int[] program = {MOVE, 0x8F, 1, 2, 3, 4, 0x50};
        for (int k = 1; k < program.length; k++) {
            Rig rig = mapped("byte " + k + " isn't there").longAt(1028, SHUT + 20).bytes(192 - k, program).status(5);
            rig.with(15, SYSTEM + 64 - k).inner(0, SYSTEM + 192).run(1).state(2, 5).look(1396, SYSTEM + 64).look(1392, 0);
            rig.look(1400, SYSTEM + 64 - k).look(1404, 5).register(0, 0);
            Rig well = mapped("byte " + k + " on the next page").bytes(192 - k, java.util.Arrays.copyOf(program, k));
            well.bytes(1280, java.util.Arrays.copyOfRange(program, k, 7)).with(15, SYSTEM + 64 - k).passes()
                    .register(0, 0x04030201).register(15, SYSTEM + 71 - k);
        }
        mapped("up to the end").longAt(1028, SHUT + 20).bytes(185, program).with(15, SYSTEM + 57).passes()
                .register(15, SYSTEM + 64);
        // The right to read is asked of the mode, not of PREVIOUS, and the right to write of none.
        for (int mode = 0; mode < 4; mode++) {
            for (int reader = 0; reader < 4; reader++) {
                Rig rig = mapped("code for " + reader).longAt(1024, 0xE0000002 | reader << 27).bytes(128, 1);
                rig.status(mode << 24 | (3 - mode) << 22).inner(0, SYSTEM + 192).run(1);
                rig.state(3, mode <= reader ? 0 : 1);
                if (mode > reader) {
                    rig.look(1392, 0).look(1396, SYSTEM).look(1400, SYSTEM).state(2, 4);
                }
            }
        }
    }

    /** PC and addresses go from the greatest number to the least, by storage's own end. */
    private static void wrapping() {
        rig("PC round").with(15, -2).bytes(2046, MOVE, 0x8F).bytes(0, 1, 2, 3, 4, 0x50).passes().register(15, 5)
                .register(0, 0x04030201);
        rig("PC over the greatest").with(15, GREATEST).bytes(2047, MOVE).bytes(0, 7, 0x50).passes()
                .register(15, LEAST + 2).register(0, 7);
        rig("a register over the greatest").program(TEST, 0x81).with(1, GREATEST).passes().register(1, LEAST + 3);
        rig("a register under the least").program(TEST_BYTE, 0x71).with(1, LEAST).bytes(2047, 0x80).passes()
                .register(1, GREATEST).hasStatus(8);
        rig("a stack over the greatest").program(5).with(14, GREATEST - 3).longAt(2044, 99).passes().register(14, LEAST)
                .register(15, 99);
        rig("a stack under the least").program(PUSH, 9).with(14, LEAST + 3).passes().register(14, GREATEST)
                .look(2047, 9);
    }

    public static void main(String[] args) {
        Words words = new Words(CHECK);
        words.hold("when MAPPED is 0 it is that in storage", ReachingTest::unmapped);
        words.hold("bits 30 and 31 of the address are its REGION, bits 6 .. 29 its page p, bits 0 .. 5 its place in it",
                ReachingTest::partsOfAnAddress);
        words.hold("region 2: p is less than LS (all L as longs without a sign)", () -> limits(2));
        words.hold("Region 0: p is less than L0", () -> limits(0));
        words.hold("region 1: p is not less than L1", () -> limits(1));
        words.hold("it is at the address B0 or B1 + 4 * p, which must be of region 2", ReachingTest::entriesOfRegion2);
        words.hold("is looked up as a whole by the entry of its first byte's page", ReachingTest::entryAsAWhole);
        words.hold("it is in storage at BS + 4 * p", ReachingTest::tableInStorage);
        words.hold("(no rights are asked there)", ReachingTest::noRightsThere);
        words.hold("Region 3 has none.", ReachingTest::region3);
        words.hold("bits 0 .. 4 the FRAME", ReachingTest::frames);
        words.hold("27 and 28 the greatest mode that may read", ReachingTest::readers);
        words.hold("29 and 30 the greatest that may write (none may write, if it is above that; reading goes by its own)",
                ReachingTest::writers);
        words.hold("When it is written, MODIFIED is set.", ReachingTest::modifiedIsSet);
        words.hold("ACCESS: the page isn't there (flag 1)", ReachingTest::pageNotThere);
        words.hold("for the entry's own address too (flag 3)", ReachingTest::entrysPageNotThere);
        words.hold("the mode may not (flag 0); each + 4 when it was to be written", ReachingTest::modeMayNot);
        words.hold("INVALID: the entry of the entry isn't VALID (flag 2)", ReachingTest::entryOfTheEntryNotValid);
        words.hold("or the entry isn't (flag 0; + 4 likewise)", ReachingTest::entryNotValid);
        words.hold("looked at in the order: entry's page there, its entry VALID, rights, VALID",
                ReachingTest::orderOfLooks);
        words.hold("Its address is that of the byte.", ReachingTest::addressOfTheByte);
        words.hold("Longs are reached byte by byte, the lowest first", ReachingTest::lowestFirst);
        words.hold("TO REACH a byte at an address, to read or to write", ReachingTest::noByteMore);
        words.hold("Longs are reached byte by byte", ReachingTest::overRegions);
        words.hold("what is written is written only when all its bytes can be reached", ReachingTest::allBytesOrNone);
        words.hold("then byte by byte, the lowest first, MODIFIED is set in its entry (found before), and the byte is written",
                ReachingTest::foundBefore);
        words.hold("The byte is in storage at 64 * FRAME + its place.", ReachingTest::atTheFirstOfStorage);
        words.hold("read byte by byte (reaching for reading, in the mode); PC goes on with each", ReachingTest::fetching);
        words.hold("NUMBERS are ints and wrap", ReachingTest::wrapping);
        CHECK.end();
    }
}
