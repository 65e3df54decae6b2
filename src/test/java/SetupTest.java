/** Promises 1 to 7: a new object, link, depth, weight, arbiter, mask, free. */
public final class SetupTest {
    private static final Check check = new Check("SetupTest");
    private static final int MIN = Integer.MIN_VALUE;
    private static final int MAX = Integer.MAX_VALUE;

    public static void main(String[] args) {
        promise1NewObject();
        promise2Link();
        promise2LinkRefused();
        promise2LinkEndsTheOldOne();
        promise3Depth();
        promise3DepthRefused();
        promise4Weight();
        promise5Arbiter();
        promise6Mask();
        promise6RowsFollowTheClock();
        promise6All32RowsAreUsed();
        promise7Free();
        check.end();
    }

    private static void promise1NewObject() {
        CreditWire x = new CreditWire();
        int[] due = {0, 4, 3, 2, 0, 0, 0, 0, -1, 0, 0, 0, 0, -1};
        for (int what = 0; what < due.length; what++) {
            check.due("new count(" + what + ")", x.count(what), due[what]);
        }
        for (int v = 0; v < 4; v++) {
            check.due("new look(v, 0)", x.look(v, 0), 4);
            check.due("new look(v, 1)", x.look(v, 1), 1);
            check.due("new look(v, 2)", x.look(v, 2), 4);
            for (int what = 3; what <= 11; what++) {
                check.due("new look(v, " + what + ")", x.look(v, what), 0);
            }
        }
        check.due("new look(4, 0)", x.look(4, 0), -1);
        check.due("new answer(0)", x.answer(0), -1);
        check.due("new packet(0, 0)", x.packet(0, 0), -1);
        check.due("new wire(0, 0)", x.wire(0, 0), -1);
        CreditWire y = new CreditWire();
        y.link(4, 3, 2, 4);
        check.dueText("new, as link(4, 3, 2, 4)", Views.all(x), Views.all(y));
        check.due("NONE", CreditWire.NONE, -1);
    }

    private static void promise2Link() {
        CreditWire x = new CreditWire();
        int[][] edges = {{1, 1, 1, 1}, {8, 16, 16, 16}, {1, 16, 1, 16}, {8, 1, 16, 1}, {3, 5, 7, 9}};
        for (int[] e : edges) {
            x.link(e[0], e[1], e[2], e[3]);
            check.due("link count(1)", x.count(1), e[0]);
            check.due("link count(2)", x.count(2), e[1]);
            check.due("link count(3)", x.count(3), e[2]);
            for (int v = 0; v < e[0]; v++) {
                check.due("link depth", x.look(v, 0), e[3]);
                check.due("link weight", x.look(v, 1), 1);
                check.due("link credits", x.look(v, 2), e[3]);
            }
            check.due("link look(channels, 0)", x.look(e[0], 0), -1);
        }
    }

    private static void promise2LinkRefused() {
        CreditWire x = busy();
        String before = Views.all(x);
        int[][] bad = {{0, 1, 1, 1}, {9, 1, 1, 1}, {-1, 1, 1, 1}, {MIN, 1, 1, 1}, {MAX, 1, 1, 1},
            {1, 0, 1, 1}, {1, 17, 1, 1}, {1, MIN, 1, 1}, {1, MAX, 1, 1},
            {1, 1, 0, 1}, {1, 1, 17, 1}, {1, 1, MIN, 1}, {1, 1, MAX, 1},
            {1, 1, 1, 0}, {1, 1, 1, 17}, {1, 1, 1, MIN}, {1, 1, 1, MAX}};
        for (int[] b : bad) {
            check.dueIllegalArgument("link(" + b[0] + ", " + b[1] + ", " + b[2] + ", " + b[3] + ")",
                    () -> x.link(b[0], b[1], b[2], b[3]));
        }
        check.dueText("state behind a refused link", Views.all(x), before);
    }

    private static void promise2LinkEndsTheOldOne() {
        CreditWire x = busy();
        x.feed(3, 0x030201L, 0);
        int answer0 = x.answer(0);
        check.due("answer(0) ahead of link", answer0, 0x11);
        x.link(4, 3, 2, 4);
        check.due("link keeps the tape", x.count(7), 3);
        check.due("link keeps the ANSWER", x.answer(0), 0x11);
        CreditWire y = new CreditWire();
        String mine = Views.all(x).replaceAll("answer .*\n", "").replaceAll("count 7 .*\n", "");
        String fresh = Views.all(y).replaceAll("answer .*\n", "").replaceAll("count 7 .*\n", "");
        check.dueText("a new link", mine, fresh);
        check.due("offer behind link", x.offer(0), 0);
        check.due("the kept tape", x.packet(0, 1), 3);
        check.due("run(30) of the new link", x.run(30), 1);
        check.due("take(0) of the new link", x.take(0), 0);
        check.due("answer(2) of the kept tape", x.answer(2), 3);
    }

    private static void promise3Depth() {
        CreditWire x = new CreditWire();
        check.due("depth(0, 16)", x.depth(0, 16), 4);
        check.due("depth(0, 1)", x.depth(0, 1), 16);
        check.due("depth(3, 7)", x.depth(3, 7), 4);
        check.due("look(0, 0)", x.look(0, 0), 1);
        check.due("look(0, 2)", x.look(0, 2), 1);
        check.due("look(3, 0)", x.look(3, 0), 7);
        check.due("look(3, 2)", x.look(3, 2), 7);
        check.due("look(1, 0)", x.look(1, 0), 4);
        x.feed(16, 0, 0);
        x.offer(0);
        check.due("depth behind an offer at CLOCK 0", x.depth(0, 2), 1);
        x.run(3);
        check.due("FLITS sent by DEPTH 2", x.look(0, 7), 2);
        check.due("CREDITS left", x.look(0, 2), 0);
    }

    private static void promise3DepthRefused() {
        CreditWire x = new CreditWire();
        String before = Views.all(x);
        int[][] bad = {{-1, 1}, {4, 1}, {MIN, 1}, {MAX, 1}, {0, 0}, {0, 17}, {0, MIN}, {0, MAX}};
        for (int[] b : bad) {
            check.dueIllegalArgument("depth(" + b[0] + ", " + b[1] + ")", () -> x.depth(b[0], b[1]));
        }
        check.dueText("state behind a refused depth", Views.all(x), before);
        x.run(1);
        check.dueThrow("depth(0, 4) at CLOCK 1", IllegalStateException.class, () -> x.depth(0, 4));
        check.dueThrow("depth(3, 9) at CLOCK 1", IllegalStateException.class, () -> x.depth(3, 9));
        for (int[] b : bad) {
            check.dueIllegalArgument("depth(" + b[0] + ", " + b[1] + ") at CLOCK 1",
                    () -> x.depth(b[0], b[1]));
        }
        check.due("look(3, 0)", x.look(3, 0), 4);
        x.link(2, 1, 1, 3);
        check.due("depth behind a new link", x.depth(1, 5), 3);
    }

    private static void promise4Weight() {
        CreditWire x = new CreditWire();
        check.due("weight(1, 15)", x.weight(1, 15), 1);
        check.due("weight(1, 1)", x.weight(1, 1), 15);
        check.due("weight(1, 9)", x.weight(1, 9), 1);
        x.run(1);
        check.due("weight(1, 3) at CLOCK 1", x.weight(1, 3), 9);
        check.due("look(1, 1)", x.look(1, 1), 3);
        check.due("look(0, 1)", x.look(0, 1), 1);
        int[][] bad = {{-1, 1}, {4, 1}, {MIN, 1}, {MAX, 1}, {1, 0}, {1, 16}, {1, MIN}, {1, MAX}};
        for (int[] b : bad) {
            check.dueIllegalArgument("weight(" + b[0] + ", " + b[1] + ")",
                    () -> x.weight(b[0], b[1]));
        }
        check.due("look(1, 1) behind refused ones", x.look(1, 1), 3);
    }

    private static void promise5Arbiter() {
        CreditWire x = new CreditWire();
        check.due("arbiter(3)", x.arbiter(3), 0);
        check.due("arbiter(2)", x.arbiter(2), 3);
        check.due("arbiter(1)", x.arbiter(1), 2);
        check.due("arbiter(1) again", x.arbiter(1), 1);
        check.due("count(4)", x.count(4), 1);
        for (int bad : new int[] {-1, 4, MIN, MAX}) {
            check.dueIllegalArgument("arbiter(" + bad + ")", () -> x.arbiter(bad));
        }
        check.due("count(4) behind refused ones", x.count(4), 1);
        x.feed(12, 0, 0);
        x.offer(2);
        x.run(2);
        check.due("arbiter(0)", x.arbiter(0), 1);
        check.due("what was sent last stays", x.count(8), 2);
        check.due("what was sent in a row stays", x.count(9), 2);
    }

    private static void promise6Mask() {
        CreditWire x = new CreditWire();
        for (int i = 1; i <= 32; i++) {
            check.due("mask", x.mask(i), i);
            check.due("count(5)", x.count(5), i);
        }
        check.dueUnsupported("mask(0), the 33rd", () -> x.mask(0));
        check.dueUnsupported("mask(-1), the 33rd", () -> x.mask(-1));
        check.due("count(5)", x.count(5), 32);
        check.due("free()", x.free(), 32);
        check.due("mask(-1)", x.mask(-1), 1);
    }

    private static void promise6RowsFollowTheClock() {
        CreditWire x = new CreditWire();
        x.link(2, 1, 1, 8);
        // Bits beyond the CHANNELS: they do not count, and do not break either.
        x.mask(0xFFFFFFFC);
        x.mask(0x1);
        x.mask(0x2);
        x.feed(16, 0, 0);
        x.offer(0);
        x.feed(16, 0, 0);
        x.offer(1);
        // CYCLE t lands the FLIT of CYCLE t - 1 (0, 1, 0, 1, ..) and drains by row t modulo 3.
        int[] landed0 = {0, 1, 1, 2, 2, 3, 3, 4, 4, 4};
        int[] landed1 = {0, 0, 1, 1, 2, 2, 3, 3, 4, 4};
        int drained0 = 0;
        int drained1 = 0;
        for (int t = 0; t < 10; t++) {
            x.run(1);
            if (t % 3 == 1 && landed0[t] > drained0) {
                drained0++;
            }
            if (t % 3 == 2 && landed1[t] > drained1) {
                drained1++;
            }
            check.due("buffer of 0 behind CYCLE " + t, x.look(0, 5), landed0[t] - drained0);
            check.due("buffer of 1 behind CYCLE " + t, x.look(1, 5), landed1[t] - drained1);
        }
        check.due("drained of 0", drained0, 3);
        check.due("drained of 1", drained1, 3);
    }

    private static void promise6All32RowsAreUsed() {
        CreditWire x = new CreditWire();
        x.link(1, 1, 1, 16);
        for (int i = 0; i < 32; i++) {
            x.mask(i == 31 ? 1 : 0);
        }
        x.offer(0);
        x.offer(0);
        check.due("run(31) with closed rows", x.run(31), 0);
        check.due("run(1) with row 31", x.run(1), 1);
        check.due("run(31) round again", x.run(31), 0);
        check.due("run(1) with row 31 again", x.run(1), 1);
    }

    private static void promise7Free() {
        CreditWire x = new CreditWire();
        check.due("free() without rows", x.free(), 0);
        x.mask(0);
        x.mask(0);
        x.feed(1, 9, 0);
        x.offer(0);
        check.due("run(9) with the MASK 0", x.run(9), 0);
        check.due("free()", x.free(), 2);
        check.due("count(5)", x.count(5), 0);
        check.due("free() again", x.free(), 0);
        check.due("run(1) without rows", x.run(1), 1);
    }

    /** An object in which everything is under way: packets, masks, credits, an ANSWER. */
    private static CreditWire busy() {
        CreditWire x = new CreditWire();
        x.link(3, 2, 3, 2);
        x.arbiter(2);
        x.weight(1, 4);
        x.mask(-1);
        x.mask(5);
        x.feed(1, 0x11, 0);
        x.offer(0);
        x.run(8);
        x.take(0);
        for (int v = 0; v < 3; v++) {
            x.feed(16, 0x0807060504030201L, 0x100f0e0d0c0b0a09L);
            x.offer(v);
        }
        x.run(5);
        return x;
    }
}
