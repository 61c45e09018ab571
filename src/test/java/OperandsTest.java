/** Promise 10: a test for each sentence on operands and specifiers that names an edge. */
public final class OperandsTest {
    private static final Check CHECK = new Check();
    private static final int LEAST = Integer.MIN_VALUE;
    private static final int GREATEST = Integer.MAX_VALUE;
    private static final int SYSTEM = Rig.SYSTEM;
    private static final int MOVE_BYTE = 13, MOVE = 14, WIDEN = 15, NARROW = 17, CLEAR = 20, TEST = 21, TEST_BYTE = 22;
    private static final int INCREMENT = 25, ADD = 27, ADD3 = 34, ADDRESS = 42, BYTE_ADDRESS = 43;

    /** The operands of the codes from 0 on, as the document tells them. */
    private static final String[] KINDS = {
        "", "", "", "", "", "", "rL", "rL", "rL", "rL", "rL rL", "rL wL", "wL", "rB wB", "rL wL", "rB wL", "rB wL", "rL wB",
        "rL wL", "rL wL", "wL", "rL", "rB", "rL rL", "rB rB", "mL", "mL", "rL mL", "rL mL", "rL mL", "rL mL", "rL mL", "rL mL",
        "rL mL", "rL rL wL", "rL rL wL", "rL rL wL", "rL rL wL", "rL rL wL", "rL rL wL", "rL rL wL", "rB rL wL", "aL wL",
        "aB wL", "rL", "aL", "aB", "aB", "d", "d", "d", "d", "d", "d", "d", "d", "d", "d", "d", "d", "d", "d", "rL d", "rL d",
        "mL d", "mL d", "rL mL d", "rL mL d", "rL aB", "rB rL aB", "rB rL aB"
    };

    private static Rig rig(String name) {
        return new Rig(CHECK, name);
    }

    /** A specifier that suits a kind of operand, whatever the code is. */
    private static int suiting(String kind) {
        switch (kind.charAt(0)) {
            case 'r': return 1;
            case 'a': return 0x65;
            case 'd': return 4;
            default: return 0x56;
        }
    }

    /** Code and operands, of which one is told by this specifier. */
    private static int[] program(int code, int position, int specifier) {
        String[] kinds = KINDS[code].split(" ");
        int[] program = new int[1 + kinds.length + 4];
        program[0] = code;
        for (int i = 0; i < kinds.length; i++) {
            program[i + 1] = i == position ? specifier : suiting(kinds[i]);
        }
        return program;
    }

    private interface Each {
        void see(int code, int position, char access, int size);
    }

    /** Every operand of every code, but for distances. */
    private static void everyOperand(Each each) {
        for (int code = 0; code < KINDS.length; code++) {
            String[] kinds = KINDS[code].split(" ");
            for (int i = 0; i < kinds.length; i++) {
                if (kinds[i].length() == 2) {
                    each.see(code, i, kinds[i].charAt(0), kinds[i].endsWith("B") ? 1 : 4);
                }
            }
        }
    }

    private static void sizes() {
        everyOperand((code, position, access, size) -> {
            // At 600 stands 8, the number of an inner register and a mask that can be.
            rig("code " + code + ", growing").program(program(code, position, 0x81)).with(1, 600).with(5, 640).longAt(600, 8)
                    .run(1).register(1, 600 + size);
            rig("code " + code + ", falling").program(program(code, position, 0x71)).with(1, 604).with(5, 640).longAt(600, 8)
                    .longAt(604 - size, 8).run(1).register(1, 604 - size);
        });
    }

    private static void accesses() {
        everyOperand((code, position, access, size) -> {
            String name = "code " + code + ", operand " + position;
            Rig literal = rig(name + ", literal").program(program(code, position, 1)).with(5, 640);
            if (access == 'r') {
                CHECK.due(name + ", literal: run(1)", literal.x.run(1), 1);
                CHECK.due(name + ", literal: is a MODE fault", literal.x.state(2) == 3 ? 1 : 0, 0);
            } else {
                literal.faults(3);
            }
            if (access == 'a') {
                rig(name + ", register").program(program(code, position, 0x51)).with(5, 640).faults(3);
            }
            if (access == 'w' || access == 'm') {
                rig(name + ", behind").program(program(code, position, 0x8F)).with(5, 640).faults(3);
            }
        });
    }

    /** Page 2 of region 0 isn't VALID: what is read faults with 0, what is only written with 4, an address not at all. */
    private static void readOrWritten() {
        everyOperand((code, position, access, size) -> {
            Rig rig = Rig.mapped(CHECK, "code " + code + ", operand " + position).bytes(128, program(code, position, 0x61));
            rig.with(1, 130).with(5, 10).inner(0, SYSTEM + 128).run(1);
            if (access == 'a' && code != 68) {
                rig.state(3, 0);
            } else {
                rig.state(2, 5).look(1340, 0).look(1336, SYSTEM).look(1332, 130).look(1328, access == 'w' ? 4 : 0);
            }
            // Of a page that can be read alone, w and m fault at the end.
            Rig alone = Rig.mapped(CHECK, "code " + code + ", read alone").bytes(128, program(code, position, 0x61));
            alone.longAt(1296, 0xA000000A).with(1, 130).with(5, 10).longAt(640, 1 << 16).inner(0, SYSTEM + 128).run(1);
            if (access == 'w' || access == 'm') {
                alone.state(2, 4).look(1336, SYSTEM).look(1332, 130).look(1328, 4).look(1296, 0xA000000A);
            }
        });
    }

    /** What an instruction before had as its operands means nothing to the next. */
    private static void nothingIsLeft() {
        for (int code = 21; code <= 22; code++) {
            int[] values = {-1, 0, 1, 127, 128};
            for (int v : values) {
                int seen = code == 22 ? (byte) v : v;
                rig("behind three operands").program(ADD3, 0x58, 0x59, 0x57, code, 0x51).with(8, 70).with(9, -70).with(1, v).run(2)
                        .hasStatus(seen < 0 ? 8 : seen == 0 ? 4 : 0);
            }
        }
        rig("a register behind memory").program(MOVE, 9, 0x61, MOVE, 8, 0x52).with(1, 600).run(2).look(600, 9).register(2, 8);
        rig("memory behind a register").program(MOVE, 8, 0x52, MOVE, 9, 0x61).with(1, 600).run(2).look(600, 9).register(2, 8);
    }

    private static void literals() {
        for (int v = 0; v < 64; v++) {
            rig("literal long").program(MOVE, v, 0x50).with(0, -1).passes().register(0, v).register(15, 131);
            rig("literal byte").program(WIDEN, v, 0x50).with(0, -1).passes().register(0, v).register(15, 131);
        }
        rig("no literal, 64").program(MOVE, 64, 0x61, 0x50).with(1, 600).longAt(600, 9).with(0, 0).passes().register(0, 9);
    }

    private static void noLiteralButForR() {
        for (int v = 0; v < 64; v++) {
            rig("literal for wL").program(CLEAR, v).faults(3);
            rig("literal for wB").program(MOVE_BYTE, 1, v).faults(3);
            rig("literal for mL").program(INCREMENT, v).faults(3);
            rig("literal for mL, second").program(ADD, 1, v).faults(3);
            rig("literal for aL").program(ADDRESS, v, 0x50).faults(3);
            rig("literal for aB").program(BYTE_ADDRESS, v, 0x50).faults(3);
            rig("literal for wL, third").program(ADD3, 1, 1, v).faults(3);
        }
    }

    private static void indexed() {
        // 4 * Rn wraps: only its lowest 30 bits count.
        int[][] longs = {{0, 0}, {1, 4}, {-1, -4}, {0x40000000, 0}, {0x3FFFFFFF, -4}, {LEAST, 0}, {GREATEST, -4},
            {0x20000000, LEAST}, {0x1FFFFFFF, GREATEST - 3}};
        for (int[] l : longs) {
            rig("long by " + l[0]).program(ADDRESS, 0x42, 0x61, 0x50).with(1, 600).with(2, l[0]).passes()
                    .register(0, 600 + l[1]).register(1, 600).register(2, l[0]).register(15, 132);
        }
        int[] bytes = {0, 1, -1, LEAST, GREATEST, 0x40000000};
        for (int b : bytes) {
            rig("byte by " + b).program(BYTE_ADDRESS, 0x42, 0x61, 0x50).with(1, 600).with(2, b).passes().register(0, 600 + b);
        }
        rig("the sum wraps").program(BYTE_ADDRESS, 0x42, 0x61, 0x50).with(1, GREATEST).with(2, 1).passes().register(0, LEAST);
        // SIZE is that of the operand, of whichever kind it is.
        rig("rB").program(WIDEN, 0x42, 0x61, 0x50).with(1, 600).with(2, 5).longAt(604, 0xAB00).passes().register(0, 0xAB);
        rig("wB").program(MOVE_BYTE, 7, 0x42, 0x61).with(1, 600).with(2, 5).passes().look(604, 0x0700);
        rig("rL").program(MOVE, 0x42, 0x61, 0x50).with(1, 600).with(2, 5).longAt(620, 9).passes().register(0, 9);
        rig("wL").program(MOVE, 7, 0x42, 0x61).with(1, 600).with(2, 5).passes().look(620, 7);
        rig("mL").program(INCREMENT, 0x42, 0x61).with(1, 600).with(2, 5).longAt(620, 9).passes().look(620, 10);
        rig("aB of JUMP").program(46, 0x42, 0x61).with(1, 600).with(2, 5).passes().register(15, 605);
    }

    private static void indexAsItIsThen() {
        rig("grown, long").program(ADDRESS, 0x41, 0x81, 0x50).with(1, 600).passes().register(0, 600 + 4 * 604).register(1, 604);
        rig("grown, byte").program(BYTE_ADDRESS, 0x41, 0x81, 0x50).with(1, 600).passes().register(0, 600 + 601);
        rig("fallen, long").program(ADDRESS, 0x41, 0x71, 0x50).with(1, 600).passes().register(0, 596 + 4 * 596);
        rig("fallen, byte").program(BYTE_ADDRESS, 0x41, 0x71, 0x50).with(1, 600).passes().register(0, 599 + 599);
        rig("deferred").program(BYTE_ADDRESS, 0x41, 0x91, 0x50).with(1, 600).longAt(600, 1000).passes().register(0, 1604);
        rig("still").program(ADDRESS, 0x41, 0x61, 0x50).with(1, 600).passes().register(0, 3000).register(1, 600);
        rig("R14").program(ADDRESS, 0x4E, 0x8E, 0x50).with(14, 600).passes().register(0, 600 + 4 * 604).register(14, 604);
    }

    private static void registers() {
        for (int n = 0; n < 15; n++) {
            rig("rL R" + n).program(TEST, 0x50 + n).with(n, LEAST).passes().hasStatus(8);
            rig("wL R" + n).program(MOVE, 9, 0x50 + n).with(n, -1).passes().register(n, 9).register(15, 131);
            rig("wB R" + n).program(MOVE_BYTE, 9, 0x50 + n).with(n, 0x8899AABB).passes().register(n, 0x8899AA09);
            rig("rB R" + n).program(TEST_BYTE, 0x50 + n).with(n, 0x7F).passes().hasStatus(0);
            rig("rB R" + n).program(TEST_BYTE, 0x50 + n).with(n, 0x80).passes().hasStatus(8);
            rig("rB R" + n).program(TEST_BYTE, 0x50 + n).with(n, 0xFFFFFF00).passes().hasStatus(4);
            rig("mL R" + n).program(INCREMENT, 0x50 + n).with(n, -1).passes().register(n, 0);
            rig("aL R" + n).program(ADDRESS, 0x50 + n, 0x50).faults(3);
            rig("aB R" + n).program(BYTE_ADDRESS, 0x50 + n, 0x50).faults(3);
            rig("JUMP R" + n).program(46, 0x50 + n).faults(3);
        }
    }

    private static void byRegister() {
        for (int n = 0; n < 15; n++) {
            rig("6, R" + n).program(TEST, 0x60 + n).with(n, 600).longAt(600, -1).passes().register(n, 600).hasStatus(8);
        }
    }

    private static void falls() {
        for (int n = 0; n < 15; n++) {
            rig("7, long, R" + n).program(TEST, 0x70 + n).with(n, 604).longAt(600, -1).passes().register(n, 600).hasStatus(8);
            rig("7, byte, R" + n).program(TEST_BYTE, 0x70 + n).with(n, 604).bytes(603, -1).passes().register(n, 603).hasStatus(8);
        }
        rig("7 from 0").program(TEST, 0x71).with(1, 0).longAt(2044, -1).passes().register(1, -4).hasStatus(8);
        rig("7 from the least").program(TEST, 0x71).with(1, LEAST).longAt(2044, -1).passes().register(1, GREATEST - 3)
                .hasStatus(8);
        rig("7, address").program(ADDRESS, 0x71, 0x50).with(1, 2).passes().register(0, -2).register(1, -2);
        rig("7, written").program(MOVE, 5, 0x71).with(1, 604).passes().look(600, 5).look(604, 0).register(1, 600);
    }

    private static void grows() {
        for (int n = 0; n < 15; n++) {
            rig("8, long, R" + n).program(TEST, 0x80 + n).with(n, 600).longAt(600, -1).passes().register(n, 604).hasStatus(8);
            rig("8, byte, R" + n).program(TEST_BYTE, 0x80 + n).with(n, 600).bytes(600, -1).passes().register(n, 601).hasStatus(8);
        }
        rig("8 to 0").program(TEST, 0x81).with(1, -4).longAt(2044, -1).passes().register(1, 0).hasStatus(8);
        rig("8 over the greatest").program(ADDRESS, 0x81, 0x50).with(1, GREATEST).passes().register(0, GREATEST)
                .register(1, LEAST + 3);
        rig("8, byte address").program(BYTE_ADDRESS, 0x81, 0x50).with(1, -1).passes().register(0, -1).register(1, 0);
        rig("8, written").program(MOVE, 5, 0x81).with(1, 600).passes().look(600, 5).look(604, 0).register(1, 604);
    }

    private static void standsBehind() {
        rig("rL").program(MOVE, 0x8F, 0xFF, 0xFF, 0xFF, 0x7F, 0x50).passes().register(0, GREATEST).register(15, 135);
        rig("rL, the least").program(MOVE, 0x8F, 0, 0, 0, 0x80, 0x50).passes().register(0, LEAST).register(15, 135);
        rig("rB").program(WIDEN, 0x8F, 0xFF, 0x50).passes().register(0, 255).register(15, 132);
        rig("aL").program(ADDRESS, 0x8F, 1, 2, 3, 4, 0x50).passes().register(0, 130).register(15, 135);
        rig("aB").program(BYTE_ADDRESS, 0x8F, 1, 0x50).passes().register(0, 130).register(15, 132);
        rig("aB of PROBE").program(69, 0, 1, 0x8F, 77).passes().register(15, 133).hasStatus(4);
        rig("JUMP").program(46, 0x8F, 1).passes().register(15, 130);
        rig("CALL").program(47, 0x8F, 1).passes().register(15, 130).look(1596, 131);
        // An address is no reading: only the byte behind the specifier can't be reached, and no one reaches it.
        Rig.mapped(CHECK, "an address at the end").longAt(1028, Rig.SHUT + 20).bytes(190, 46, 0x8F).with(15, SYSTEM + 62)
                .passes().register(15, SYSTEM + 64);
    }

    private static void deferred() {
        rig("9, long").program(MOVE, 0x91, 0x50).with(1, 600).longAt(600, 700).longAt(700, 9).passes().register(0, 9)
                .register(1, 604);
        rig("9, byte: by 4 too").program(WIDEN, 0x91, 0x50).with(1, 600).longAt(600, 703).longAt(700, 0xFE000000).passes()
                .register(0, 0xFE).register(1, 604);
        rig("9, address: the long is read").program(BYTE_ADDRESS, 0x91, 0x50).with(1, 600).longAt(600, LEAST + 1).passes()
                .register(0, LEAST + 1).register(1, 604);
        rig("9 over the greatest").program(ADDRESS, 0x91, 0x50).with(1, GREATEST).longAt(2047, 77).passes().register(0, 77)
                .register(1, LEAST + 3);
        rig("9, the long is its own register's place").program(MOVE, 0x91, 0x51).with(1, 600).longAt(600, 600).passes()
                .register(1, 600);
        rig("9, n = 15").program(MOVE, 0x9F, 0xBC, 2, 0, 0, 0x50).longAt(700, 9).passes().register(0, 9).register(15, 135);
        rig("9, n = 15, byte").program(WIDEN, 0x9F, 0xBC, 2, 0, 0, 0x50).longAt(700, 9).passes().register(0, 9).register(15, 135);
        rig("9, n = 15, w").program(MOVE, 5, 0x9F, 0xBC, 2, 0, 0).passes().look(700, 5).register(15, 135);
        rig("9, n = 15, wB").program(MOVE_BYTE, 5, 0x9F, 0xBC, 2, 0, 0).passes().look(700, 5).register(15, 135);
        rig("9, n = 15, m").program(INCREMENT, 0x9F, 0xBC, 2, 0, 0).longAt(700, 9).passes().look(700, 10);
        rig("9, n = 15, a").program(BYTE_ADDRESS, 0x9F, 0xFF, 0xFF, 0xFF, 0xFF, 0x50).passes().register(0, -1).register(15, 135);
        rig("9, n = 15, behind 4").program(ADDRESS, 0x41, 0x9F, 0xBC, 2, 0, 0, 0x50).with(1, -1).passes().register(0, 696);
    }

    private static void byteBehind() {
        int[] distances = {0, 1, 127, -128, -127, -1};
        for (int d : distances) {
            rig("10, " + d).program(ADDRESS, 0xA1, d, 0x50).with(1, 600).passes().register(0, 600 + d).register(1, 600)
                    .register(15, 132);
            rig("10, PC, " + d).program(ADDRESS, 0xAF, d, 0x50).passes().register(0, 131 + d).register(15, 132);
        }
        rig("10 over the greatest").program(ADDRESS, 0xA1, 127, 0x50).with(1, GREATEST).passes().register(0, LEAST + 126);
        rig("10 under the least").program(ADDRESS, 0xA1, -128, 0x50).with(1, LEAST).passes().register(0, GREATEST - 127);
        rig("behind 4: PC behind both").program(ADDRESS, 0x41, 0xAF, 10, 0x50).with(1, 0).passes().register(0, 142);
    }

    private static void byteBehindDeferred() {
        int[] distances = {0, 1, 127, -128, -127, -1};
        for (int d : distances) {
            rig("11, " + d).program(ADDRESS, 0xB1, d, 0x50).with(1, 600).longAt(600 + d, -9).passes().register(0, -9)
                    .register(1, 600).register(15, 132);
        }
        rig("11, read").program(MOVE, 0xB1, 4, 0x50).with(1, 600).longAt(604, 700).longAt(700, 9).passes().register(0, 9);
        rig("11, written").program(MOVE, 5, 0xB1, 4).with(1, 600).longAt(604, 700).passes().look(700, 5).look(604, 700);
        rig("11, byte").program(MOVE_BYTE, 5, 0xB1, 4).with(1, 600).longAt(604, 700).passes().look(700, 5).look(604, 700);
        rig("11, PC").program(MOVE, 0xBF, 9, 0x50).longAt(140, 700).longAt(700, 9).passes().register(0, 9);
        rig("11, PC, back").program(MOVE, 0xBF, -31, 0x50).longAt(100, 700).longAt(700, 9).passes().register(0, 9);
        rig("11 round the end").program(ADDRESS, 0xB1, -4, 0x50).with(1, 2).bytes(2046, 1, 2).bytes(0, 3, 4).passes()
                .register(0, 0x04030201);
        Rig.mapped(CHECK, "11, the long isn't there").bytes(128, ADDRESS, 0xB1, 4, 0x50).with(1, 120).inner(0, SYSTEM + 128)
                .bytes(130, 7).run(1).state(2, 5).look(1332, 128).look(1328, 0);
    }

    private static void fiveForA() {
        int[] codes = {ADDRESS, BYTE_ADDRESS, 45, 46, 47};
        for (int code : codes) {
            for (int n = 0; n < 16; n++) {
                rig("code " + code + " of R" + n).program(code, 0x50 + n, 0x50).faults(3);
            }
        }
        rig("68").program(68, 1, 0x51).faults(3);
        rig("69").program(69, 1, 1, 0x51).faults(3);
        rig("70").program(70, 1, 1, 0x51).faults(3);
    }

    private static void eightWith15() {
        rig("wL").program(CLEAR, 0x8F, 1, 2, 3, 4).faults(3).look(130, 0x04030201);
        rig("wB").program(MOVE_BYTE, 1, 0x8F, 1).faults(3);
        rig("wL, third").program(ADD3, 1, 1, 0x8F, 1, 2, 3, 4).faults(3);
        rig("mL").program(INCREMENT, 0x8F, 1, 2, 3, 4).faults(3).look(130, 0x04030201);
        rig("mL, second").program(ADD, 1, 0x8F, 1, 2, 3, 4).faults(3);
        rig("mL of 64").program(64, 0x8F, 1, 2, 3, 4, 5).faults(3);
    }

    private static void longBehind() {
        int[] distances = {0, 1, -1, 128, 255, -129, LEAST, GREATEST};
        for (int d : distances) {
            rig("14, " + d).program(ADDRESS, 0xE1, d, d >> 8, d >> 16, d >> 24, 0x50).with(1, 600).passes()
                    .register(0, 600 + d).register(1, 600).register(15, 135);
            rig("14, PC, " + d).program(ADDRESS, 0xEF, d, d >> 8, d >> 16, d >> 24, 0x50).passes().register(0, 134 + d)
                    .register(15, 135);
            rig("15, " + d).program(ADDRESS, 0xF1, d, d >> 8, d >> 16, d >> 24, 0x50).with(1, 600)
                    .longAt((600 + d) & 2047, -9).passes().register(0, -9).register(1, 600).register(15, 135);
        }
        rig("15, PC").program(MOVE, 0xFF, 6, 0, 0, 0, 0x50).longAt(140, 700).longAt(700, 9).passes().register(0, 9);
        rig("behind 4: PC behind both").program(ADDRESS, 0x41, 0xEF, 10, 0, 0, 0, 0x50).with(1, 0).passes().register(0, 145);
    }

    private static void noSuchWay() {
        int[][] kinds = {{TEST}, {TEST_BYTE}, {CLEAR}, {MOVE_BYTE, 1}, {INCREMENT}, {ADDRESS}, {BYTE_ADDRESS}, {46}};
        for (int[] kind : kinds) {
            for (int n = 0; n < 16; n++) {
                for (int m = 12; m < 14; m++) {
                    int[] program = java.util.Arrays.copyOf(kind, kind.length + 2);
                    program[kind.length] = 16 * m + n;
                    program[kind.length + 1] = 0x50;
                    rig("way " + m).program(program).faults(3);
                }
            }
        }
    }

    private static void withRegister15() {
        int[][] kinds = {{TEST}, {TEST_BYTE}, {CLEAR}, {MOVE_BYTE, 1}, {INCREMENT}, {ADDRESS}, {BYTE_ADDRESS}, {46}};
        for (int[] kind : kinds) {
            for (int m = 4; m < 8; m++) {
                int[] program = java.util.Arrays.copyOf(kind, kind.length + 3);
                program[kind.length] = 16 * m + 15;
                program[kind.length + 1] = 0x61;
                program[kind.length + 2] = 0x50;
                rig("way " + m + ", 15, code " + kind[0]).program(program).with(1, 600).faults(3);
            }
        }
        // Told before what stands behind it is looked for.
        Rig.mapped(CHECK, "4 with 15 at the end").longAt(1028, Rig.SHUT + 20).bytes(190, TEST, 0x4F).with(15, SYSTEM + 62)
                .inner(0, SYSTEM + 192).run(1).state(2, 3);
    }

    private static void behindFour() {
        for (int s = 0; s < 256; s++) {
            int m = s >> 4;
            int n = s & 15;
            boolean bad = m < 6 || m == 12 || m == 13 || m < 9 && n == 15;
            int[] codes = {TEST, TEST_BYTE, CLEAR, INCREMENT, 45, 46};
            for (int code : codes) {
                Rig rig = rig("code " + code + ", 4, then " + s).program(code, 0x4D, s, 0xBC, 2, 0, 0);
                rig.with(13, 0).with(n == 15 || n == 13 ? 0 : n, 704).longAt(704, 712);
                if (bad) {
                    rig.faults(3);
                } else {
                    rig.run(1).state(2, 0);
                }
            }
        }
    }

    private static void oneBehindTheOther() {
        rig("moved by the first").program(ADD3, 0x81, 0x81, 0x81).with(1, 600).longs(600, 3, 4).passes().look(608, 7)
                .register(1, 612);
        rig("and back").program(ADD3, 0x81, 0x71, 0x71).with(1, 600).longs(600, 3, 4).passes().look(596, 6).register(1, 596);
        // The first fault is the one.
        Rig.mapped(CHECK, "INVALID, then MODE").bytes(128, MOVE, 0x61, 0xC0).with(1, 128).inner(0, SYSTEM + 128).run(1).state(2, 5);
        Rig.mapped(CHECK, "MODE, then INVALID").bytes(128, MOVE, 0xC0, 0x61).with(1, 128).inner(0, SYSTEM + 128).run(1).state(2, 3);
        Rig.mapped(CHECK, "read when found, but not written").bytes(128, 64, 0x61, 0).with(1, 0).longAt(1288, 0xA0000008)
                .inner(0, SYSTEM + 128).run(1).state(2, 4).look(1328, 4);
        // A distance is fetched before what stands before it is written.
        Rig.mapped(CHECK, "the distance can't be read").bytes(190, 64, 0x61).with(1, 0).longAt(1288, 0xA0000008)
                .longAt(1028, Rig.SHUT + 20).with(15, SYSTEM + 62).inner(0, SYSTEM + 192).inner(8, SYSTEM + 128 + 8)
                .longAt(1352, 0xA0000008).run(1).state(2, 5).look(1396, SYSTEM + 64);
    }

    private static void readWhenFound() {
        rig("r, then moved").program(ADD3, 0x51, 0x81, 0x50).with(1, 600).longAt(600, 3).passes().register(0, 603)
                .register(1, 604);
        rig("m, and the same register").program(ADD, 0x81, 0x51).with(1, 600).longAt(600, 3).passes().register(1, 607);
        rig("r of what is written").program(MOVE, 0x61, 0x61).with(1, 600).longAt(600, 3).passes().look(600, 3);
        rig("66: the first as it was").program(66, 0x51, 0x51, 5).with(1, 7).passes().register(1, 8).register(15, 132);
        rig("67: the first as it was").program(67, 0x51, 0x51, 5).with(1, 7).passes().register(1, 8).register(15, 132);
        // A long is read as a whole before it is written, one byte on.
        rig("overlapping").program(MOVE, 0x61, 0x62).with(1, 600).with(2, 601).longAt(600, 0x04030201).passes()
                .look(600, 0x03020101).look(604, 4);
    }

    private static void writtenAtTheEnd() {
        rig("a byte into what grew").program(MOVE_BYTE, 0x81, 0x51).with(1, 0x6FF).bytes(0x6FF, 0x42).passes()
                .register(1, 0x742);
        rig("a byte into what fell").program(MOVE_BYTE, 0x71, 0x51).with(1, 0x700).bytes(0x6FF, 0x42).passes()
                .register(1, 0x642);
        rig("a narrowed byte into what grew").program(NARROW, 0x81, 0x51).with(1, 0x6FC).longAt(0x6FC, 0x42).passes()
                .register(1, 0x742);
        rig("a long into what grew").program(MOVE, 0x81, 0x51).with(1, 600).longAt(600, 9).passes().register(1, 9);
        rig("by a register that grew").program(MOVE, 0x81, 0x61).with(1, 600).longAt(600, 9).passes().look(604, 9);
        rig("its own register").program(MOVE, 0x51, 0x81).with(1, 600).passes().look(600, 600).register(1, 604);
        // What can't be written is known at the end, behind all else.
        Rig.mapped(CHECK, "at the end").bytes(128, 37, 0, 0x52, 0x61).with(1, 128).with(2, 5).inner(0, SYSTEM + 128)
                .run(1).state(2, 5).state(3, 1).look(1332, 128).look(1328, 4);
        Rig.mapped(CHECK, "no such inner register first").bytes(128, 11, 5, 0x61).with(1, 128).inner(0, SYSTEM + 128)
                .run(1).state(2, 2);
    }

    private static void distances() {
        for (int d = -128; d < 128; d++) {
            rig("GO " + d).program(48, d).passes().register(15, 130 + d);
        }
        rig("under 0").with(15, 0).bytes(0, 48, -128).passes().register(15, -126);
        rig("over the greatest").with(15, GREATEST - 1).bytes(2046, 48, 127).passes().register(15, LEAST + 127);
    }

    private static void behindTheInstruction() {
        rig("62, a long behind").program(62, 0x8F, 1, 0, 0, 0, 10).passes().register(15, 135 + 10);
        rig("64, displaced").program(64, 0xA1, 4, -10).with(1, 600).longAt(604, 5).passes().register(15, 132 - 10);
        rig("67, indexed").program(67, 63, 0x41, 0x62, 100).with(1, 1).with(2, 600).passes().register(15, 133 + 100);
        rig("49, pushed and gone by").program(49, -100).passes().register(15, 30).look(1596, 130);
        for (int code = 50; code <= 61; code++) {
            int taken = (code & 1) == 1 ? 15 : 0;
            rig("branch " + code).program(code, -128).status(taken).passes().register(15, 2);
            rig("branch " + code + ", not taken").program(code, -128).status(15 - taken).passes().register(15, 130);
        }
    }

    public static void main(String[] args) {
        Words words = new Words(CHECK);
        words.hold("each of a byte (B) or a long (L)", OperandsTest::sizes);
        words.hold("OPERANDS are r (read), w (written), m (both), a (an address)", OperandsTest::readOrWritten);
        words.hold("told by a SPECIFIER", OperandsTest::accesses);
        words.hold("AN INSTRUCTION is at PC: a byte, its code, and its operands behind it", OperandsTest::nothingIsLeft);
        words.hold("m 0 .. 3: the literal 16 * m + n (r alone).", OperandsTest::literals);
        words.hold("a literal for w, m or a", OperandsTest::noLiteralButForR);
        words.hold("that + SIZE (1 or 4, that of the operand) * Rn", OperandsTest::indexed);
        words.hold("as it is then", OperandsTest::indexAsItIsThen);
        words.hold("5: Rn (not a; a byte is its lowest byte, the others stay).", OperandsTest::registers);
        words.hold("6: the address is Rn.", OperandsTest::byRegister);
        words.hold("7: Rn falls by SIZE, then it is Rn.", OperandsTest::falls);
        words.hold("8: it is Rn, which then grows by SIZE", OperandsTest::grows);
        words.hold("n = 15: what stands behind is the operand (r or a alone).", OperandsTest::standsBehind);
        words.hold("9: it is the long at Rn, which then grows by 4 (n = 15: the long that stands behind).",
                OperandsTest::deferred);
        words.hold("10: it is Rn + a byte with its sign that stands behind (PC as it is behind that).",
                OperandsTest::byteBehind);
        words.hold("11: it is the long at the address of 10.", OperandsTest::byteBehindDeferred);
        words.hold("14, 15: likewise with a long that stands behind.", OperandsTest::longBehind);
        words.hold("MODE faults: 12 and 13", OperandsTest::noSuchWay);
        words.hold("4 to 7 with n = 15", OperandsTest::withRegister15);
        words.hold("5 for a", OperandsTest::fiveForA);
        words.hold("8 with n = 15 for w or m", OperandsTest::eightWith15);
        words.hold("behind 4: 0 .. 5, and 8 with n = 15", OperandsTest::behindFour);
        words.hold("Operands are found one behind the other", OperandsTest::oneBehindTheOther);
        words.hold("r and m are read when they are found", OperandsTest::readWhenFound);
        words.hold("what is written (one operand at most) is written at the end of the instruction, into a register as it is then",
                OperandsTest::writtenAtTheEnd);
        words.hold("and d, a byte with its sign, a distance", OperandsTest::distances);
        words.hold("A d that is gone by is added to PC as it is behind the instruction.", OperandsTest::behindTheInstruction);
        CHECK.end();
    }
}
