/**
 * Promise 10: every code with every specifier at the place of every operand (and every specifier behind
 * INDEXED), and every code with pairs of numbers that lie at edges, beside the Oracle.
 */
public final class EveryOperandTest {
    private static final int LEAST = Integer.MIN_VALUE;
    private static final int GREATEST = Integer.MAX_VALUE;
    private static final int[] EDGES = {
        0, 1, -1, 2, -2, 3, 30, 31, 32, 33, 63, 64, 127, 128, 129, 255, 256, 257, -31, -32, -33, -127, -128, -129, -256,
        32767, 32768, 65535, 65536, 46340, 46341, 1 << 30, -1 << 30, GREATEST, GREATEST - 1, LEAST, LEAST + 1
    };
    private static int wrong;

    private static Twin twin(int status) {
        Twin twin = new Twin().inner(17, 1920);
        for (int k = 0; k < 12; k += 2) {
            twin.fill(1920 + 4 * k, 1000L + 16 * k | (1016L + 16 * k) << 32);
        }
        for (int m = 0; m < 4; m++) {
            twin.inner(m, 1600 - 100 * m);
        }
        return twin.begin(status).set(15, 128);
    }

    private static void ran(String name, Twin twin) {
        twin.run(1);
        twin.compareAll();
        twin.compareChanged(0);
        if (twin.wrong() != null) {
            wrong++;
            System.out.println(name + ": " + twin.wrong());
        }
    }

    /** How many bytes stand behind a specifier; those of one behind INDEXED are counted with it. */
    private static int lengthBehind(int specifier, int size) {
        int m = specifier >> 4;
        if (m == 8 && (specifier & 15) == 15) {
            return size;
        }
        if (m == 9 && (specifier & 15) == 15 || m == 14 || m == 15) {
            return 4;
        }
        return m == 10 || m == 11 ? 1 : 0;
    }

    /** A specifier that suits a kind of operand. */
    private static int suiting(String kind) {
        switch (kind.charAt(0)) {
            case 'r': return 1;
            case 'a': return 0x65;
            case 'd': return 4;
            default: return 0x56;
        }
    }

    private static void operand(int code, int position, int specifier, int behindIndexed) {
        String[] kinds = Oracle.kindsOf(code);
        int[] program = new int[24];
        int n = 0;
        program[n++] = code;
        for (int i = 0; i < kinds.length; i++) {
            if (i != position) {
                program[n++] = suiting(kinds[i]);
                continue;
            }
            program[n++] = specifier;
            int last = specifier;
            if (behindIndexed >= 0) {
                program[n++] = behindIndexed;
                last = behindIndexed;
            }
            int size = kinds[i].endsWith("L") ? 4 : 1;
            for (int k = lengthBehind(last, size); k > 0; k--) {
                program[n++] = k < 3 ? 0 : 4 * k;
            }
        }
        Twin twin = twin(0x0040000B).bytes(128, program);
        for (int r = 0; r < 14; r++) {
            twin.set(r, 600 + 20 * r).fill(600 + 20 * r, 712L + r | 0x80F3A1B5L << 32);
        }
        ran("code " + code + ", operand " + position + ", specifier " + specifier + " " + behindIndexed, twin);
    }

    private static void everySpecifier() {
        for (int code = 0; code <= 70; code++) {
            int operands = Oracle.kindsOf(code).length;
            for (int position = 0; position < operands; position++) {
                for (int s = 0; s < 256; s++) {
                    if (s >> 4 != 4 || s == 0x4F) {
                        operand(code, position, s, -1);
                    }
                }
                int[] indexes = {0x40, 0x4D, 0x4E};
                for (int index : indexes) {
                    for (int s = 0; s < 256; s++) {
                        operand(code, position, index, s);
                    }
                }
            }
        }
    }

    private static void values(int code, int status, int a, int b) {
        String[] kinds = Oracle.kindsOf(code);
        int[] program = new int[8];
        program[0] = code;
        for (int i = 0; i < kinds.length; i++) {
            char access = kinds[i].charAt(0);
            program[i + 1] = access == 'd' ? 100 : access == 'a' ? 0x61 + i : 0x51 + i;
        }
        ran("code " + code + " of " + a + " and " + b, twin(status).bytes(128, program).set(1, a).set(2, b).set(3, 700));
    }

    private static void everyValue() {
        int[] statuses = {0x00000004, 0x0000002B};
        for (int code = 0; code <= 70; code++) {
            if (Oracle.kindsOf(code).length > 0) {
                for (int status : statuses) {
                    for (int a : EDGES) {
                        for (int b : EDGES) {
                            values(code, status, a, b);
                        }
                    }
                }
            }
        }
    }

    /** Every code there may be, in every mode, with every PREVIOUS and all conditions. */
    private static void everyStatus() {
        for (int code = 0; code < 256; code++) {
            for (int modes = 0; modes < 16; modes++) {
                for (int c = 0; c < 16; c++) {
                    Twin twin = twin(modes << 22 | c | (c & 1) << 5).bytes(128, code, 1, 0x52, 0x63, 4).set(1, 9).set(2, 3);
                    ran("code " + code + " with status " + (modes << 22 | c), twin.set(3, 700).set(13, 800));
                }
            }
        }
    }

    public static void main(String[] args) {
        everySpecifier();
        everyValue();
        everyStatus();
        if (wrong != 0) {
            System.out.println(wrong + " wrong");
            System.exit(1);
        }
    }
}
