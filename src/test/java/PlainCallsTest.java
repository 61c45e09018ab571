/** Promises 1 to 9 and 12, and what run and reach refuse. */
public final class PlainCallsTest {
    private static final int[] INNERS = {0, 1, 2, 3, 8, 9, 10, 11, 12, 13, 17, 56};
    private static final Check CHECK = new Check();

    private static boolean isInner(int k) {
        for (int i : INNERS) {
            if (i == k) {
                return true;
            }
        }
        return false;
    }

    private static void newObject() {
        QuadMode y = new QuadMode();
        for (int a = 0; a < 2048; a += 4) {
            CHECK.due("new: look(" + a + ")", y.look(a), 0);
        }
        QuadMode x = new QuadMode();
        for (int r = 0; r < 16; r++) {
            CHECK.due("new: register(" + r + ")", x.register(r), 0);
        }
        for (int k : INNERS) {
            CHECK.due("new: inner(" + k + ")", x.inner(k), 0);
        }
        CHECK.due("new: status()", x.status(), 0);
        for (int k = 0; k < 4; k++) {
            CHECK.due("new: state(" + k + ")", x.state(k), 0);
        }
        // Neither HALTED nor DEAD: it runs, and the 0 at 0 HALTs it.
        CHECK.due("new: run(1)", x.run(1), 1);
        CHECK.due("new: state(0) behind HALT", x.state(0), 1);
        CHECK.due("another object is not touched", new QuadMode().state(0), 0);
    }

    private static void storage() {
        QuadMode x = new QuadMode();
        x.fill(8, 0x8877665544332211L);
        CHECK.due("look(8)", x.look(8), 0x44332211);
        CHECK.due("look(9)", x.look(9), 0x55443322);
        CHECK.due("look(12)", x.look(12), 0x88776655);
        CHECK.due("look(4)", x.look(4), 0);
        CHECK.due("look(5), half filled", x.look(5), 0x11000000);
        CHECK.due("look(16)", x.look(16), 0);
        CHECK.due("look(8 + 2048)", x.look(8 + 2048), 0x44332211);
        CHECK.due("look(8 - 2048)", x.look(8 - 2048), 0x44332211);
        x.fill(2044, 0x0807060504030201L);
        CHECK.due("look(2044)", x.look(2044), 0x04030201);
        CHECK.due("look(2046), round the end", x.look(2046), 0x06050403);
        CHECK.due("look(0)", x.look(0), 0x08070605);
        CHECK.due("look(-2), round the end", x.look(-2), 0x06050403);
        x.fill(Integer.MIN_VALUE, -1L);
        CHECK.due("look(0) behind fill(the least int)", x.look(0), -1);
        x.fill(Integer.MAX_VALUE, 0L);
        CHECK.due("look(2047) behind fill(the greatest int)", x.look(2047), 0);
        CHECK.due("look(7) behind it", x.look(7) & 255, 255);
        // MAPPED means nothing to these.
        x.setInner(56, 1);
        x.fill(100, 5L);
        CHECK.due("look(100) when MAPPED", x.look(100), 5);
    }

    private static void registers() {
        QuadMode x = new QuadMode();
        for (int r = 0; r < 16; r++) {
            x.set(r, 1000 - 77 * r);
        }
        for (int r = 0; r < 16; r++) {
            CHECK.due("register(" + r + ")", x.register(r), 1000 - 77 * r);
        }
        CHECK.due("inner(0) is R14", x.inner(0), 1000 - 77 * 14);
        int[] none = {-1, 16, 17, Integer.MIN_VALUE, Integer.MAX_VALUE};
        for (int r : none) {
            CHECK.throwing("register(" + r + ")", IndexOutOfBoundsException.class, () -> x.register(r));
            CHECK.throwing("set(" + r + ")", IndexOutOfBoundsException.class, () -> x.set(r, 3));
        }
        CHECK.due("register(15) behind these", x.register(15), 1000 - 77 * 15);
        CHECK.due("register(0) behind these", x.register(0), 1000);
        for (int m = 3; m >= 0; m--) {
            x.begin(m << 24);
            x.set(14, 50 + m);
        }
        for (int m = 0; m < 4; m++) {
            CHECK.due("inner(" + m + "), the mode's stack", x.inner(m), 50 + m);
            x.begin(m << 24);
            CHECK.due("R14 in mode " + m, x.register(14), 50 + m);
        }
        x.set(0, Integer.MIN_VALUE);
        CHECK.due("register(0)", x.register(0), Integer.MIN_VALUE);
    }

    private static void inners() {
        QuadMode x = new QuadMode();
        for (int k : INNERS) {
            x.setInner(k, -7 - k);
        }
        for (int k : INNERS) {
            CHECK.due("inner(" + k + ")", x.inner(k), k == 56 ? 1 : -7 - k);
        }
        CHECK.due("R14", x.register(14), -7);
        x.setInner(56, 0);
        CHECK.due("MAPPED", x.inner(56), 0);
        x.setInner(56, Integer.MIN_VALUE);
        CHECK.due("MAPPED", x.inner(56), 1);
        for (int k = -3; k < 70; k++) {
            int number = k;
            if (!isInner(k)) {
                CHECK.throwing("inner(" + k + ")", IndexOutOfBoundsException.class, () -> x.inner(number));
                CHECK.throwing("setInner(" + k + ")", IndexOutOfBoundsException.class, () -> x.setInner(number, 1));
            }
        }
        CHECK.throwing("inner(least)", IndexOutOfBoundsException.class, () -> x.inner(Integer.MIN_VALUE));
        CHECK.throwing("inner(greatest)", IndexOutOfBoundsException.class, () -> x.inner(Integer.MAX_VALUE));
        CHECK.throwing("setInner(least)", IndexOutOfBoundsException.class, () -> x.setInner(Integer.MIN_VALUE, 0));
        x.begin(2 << 24);
        x.setInner(2, 99);
        CHECK.due("R14 in mode 2", x.register(14), 99);
    }

    private static void statuses() {
        QuadMode x = new QuadMode();
        for (int b = 0; b < 32; b++) {
            int s = 1 << b;
            boolean may = b < 4 || b == 5 || b >= 22 && b <= 25;
            if (may) {
                x.begin(s);
                CHECK.due("status() behind begin of bit " + b, x.status(), s);
            } else {
                x.begin(9);
                CHECK.throwing("begin of bit " + b, IllegalArgumentException.class, () -> x.begin(s | 1));
                CHECK.due("status() behind a refused begin", x.status(), 9);
            }
        }
        // PREVIOUS may be less than MODE here: only bits are looked at.
        x.begin(0x0300002F);
        CHECK.due("status()", x.status(), 0x0300002F);
        x.begin(0x03C0002F);
        CHECK.due("status()", x.status(), 0x03C0002F);
    }

    private static void beginAgain() {
        Rig halted = new Rig(CHECK, "halted").program(0, 0);
        halted.run(1).state(0, 1);
        CHECK.throwing("run when HALTED", IllegalStateException.class, () -> halted.x.run(1));
        CHECK.throwing("begin(16) when HALTED", IllegalArgumentException.class, () -> halted.x.begin(16));
        halted.state(0, 1).status(0).state(0, 0).run(1).state(0, 1).state(1, 2).register(15, 130);

        Rig dead = new Rig(CHECK, "dead").inner(56, 1);
        dead.run(1).state(0, 2).state(1, 1);
        CHECK.throwing("run when DEAD", IllegalStateException.class, () -> dead.x.run(200));
        CHECK.throwing("run(201) when DEAD", IllegalArgumentException.class, () -> dead.x.run(201));
        CHECK.throwing("run(0) when DEAD", IllegalArgumentException.class, () -> dead.x.run(0));
        dead.inner(56, 0).state(0, 2).status(0).state(0, 0).run(1).state(0, 1);
    }

    private static void runs() {
        QuadMode x = new QuadMode();
        int[] bad = {0, -1, 201, Integer.MIN_VALUE, Integer.MAX_VALUE};
        for (int n : bad) {
            CHECK.throwing("run(" + n + ")", IllegalArgumentException.class, () -> x.run(n));
        }
        CHECK.due("state(1) behind refused runs", x.state(1), 0);
        x.fill(0, 0xFE30L); // GO -2, for ever
        CHECK.due("run(200)", x.run(200), 200);
        CHECK.due("run(1)", x.run(1), 1);
        CHECK.due("state(1)", x.state(1), 201);
        x.fill(0, 0x000101L); // NOP NOP HALT
        CHECK.due("run(200) to HALT", x.run(200), 3);
        CHECK.due("state(1)", x.state(1), 204);
        CHECK.due("PC behind HALT", x.register(15), 3);
    }

    private static void states() {
        QuadMode x = new QuadMode();
        int[] none = {-1, 4, 5, Integer.MIN_VALUE, Integer.MAX_VALUE};
        for (int k : none) {
            CHECK.due("state(" + k + ")", x.state(k), -1);
        }
        // The codes: BREAK, then (by vector 6, to 1096) code 71, which is none.
        Rig rig = new Rig(CHECK, "states").program(3).bytes(1096, 71);
        rig.run(1).excepted(6, 1).state(1, 1).run(1).excepted(1, 2).state(1, 2).state(0, 0);
        rig.status(0).state(1, 2).state(2, 1).state(3, 2);
    }

    private static void modesOfReach() {
        QuadMode x = new QuadMode();
        int[] bad = {-1, 4, Integer.MIN_VALUE, Integer.MAX_VALUE};
        for (int m : bad) {
            CHECK.throwing("reach in mode " + m, IllegalArgumentException.class, () -> x.reach(0, true, m));
        }
        CHECK.due("reach(-1) when not MAPPED", x.reach(-1, true, 3), 2047);
        CHECK.due("reach(2048) when not MAPPED", x.reach(2048, false, 0), 0);
        CHECK.due("reach(0xC0000005) when not MAPPED", x.reach(0xC0000005, false, 0), 5);
    }

    public static void main(String[] args) {
        newObject();
        storage();
        registers();
        inners();
        statuses();
        beginAgain();
        runs();
        states();
        modesOfReach();
        CHECK.end();
    }
}
