/** Promise 10, and Term 2: run, the order within a CYCLE, and the four ARBITERS. */
public final class CycleTest {
    private static final Check check = new Check("CycleTest");

    public static void main(String[] args) {
        promise10Run();
        delaysOfOneFlit();
        delaysOf16();
        creditsComeAheadOfSending();
        drainsOneOfEachChannelInACycle();
        turns();
        turnsSkipWhoIsNotAble();
        least();
        weights();
        weightsBeginARowByTurns();
        weightsGoOnBehindAnotherArbiter();
        rowOutlastsIdleCycles();
        whole();
        wholeWaitsForItsCredits();
        wholeTakesTheLeastOfSeveral();
        check.end();
    }

    private static void promise10Run() {
        CreditWire x = new CreditWire();
        for (int bad : new int[] {0, -1, 5001, Integer.MIN_VALUE, Integer.MAX_VALUE}) {
            check.dueIllegalArgument("run(" + bad + ")", () -> x.run(bad));
        }
        check.due("count(0)", x.count(0), 0);
        check.due("run(1)", x.run(1), 0);
        check.due("run(5000)", x.run(5000), 0);
        check.due("count(0)", x.count(0), 5001);
        offer(x, 0, 1);
        offer(x, 1, 1);
        offer(x, 1, 8);
        check.due("run(3): sent at 5001, comes at 5004", x.run(3), 0);
        check.due("run(2)", x.run(2), 2);
        check.due("run(5000)", x.run(5000), 1);
    }

    private static void delaysOfOneFlit() {
        for (int wire = 1; wire <= 16; wire++) {
            for (int back = 1; back <= 16; back++) {
                CreditWire x = new CreditWire();
                x.link(1, wire, back, 1);
                offer(x, 0, 8);
                x.run(1);
                check.due("CREDITS behind sending", x.look(0, 2), 0);
                check.due("it comes", x.wire(wire - 1, 2), 0);
                int arrives = runUntil(x, 0, 10, 4);
                check.due("first FLIT drained in CYCLE", arrives, wire);
                check.due("the CREDIT comes", x.back(0, back - 1), 1);
                check.due("second FLIT sent in CYCLE", runUntil(x, 0, 7, 2), wire + back);
            }
        }
    }

    private static void delaysOf16() {
        CreditWire x = new CreditWire();
        x.link(1, 16, 16, 16);
        for (int k = 0; k < 3; k++) {
            offer(x, 0, 60);
        }
        x.run(16);
        check.due("16 on the wire", x.look(0, 4), 16);
        check.due("no CREDITS", x.look(0, 2), 0);
        for (int i = 0; i < 16; i++) {
            check.due("FLIT on the wire", x.wire(i, 1) * 15 + x.wire(i, 2), i);
        }
        check.due("wire(16, 1), beyond a full wire", x.wire(16, 1), -1);
        x.run(16);
        check.due("back(0, 15)", x.back(0, 15), 1);
        check.due("back(0, 16), beyond a full way back", x.back(0, 16), 0);
        check.due("16 CREDITS under way", x.look(0, 3), 16);
        check.due("sent", x.look(0, 7), 16);
        x.run(1);
        check.due("sent", x.look(0, 7), 17);
        check.due("stalled", x.count(10), 16);
        check.due("ARRIVED", x.look(0, 8), 1);
        check.due("run(200)", x.run(200), 2);
    }

    private static void creditsComeAheadOfSending() {
        CreditWire x = new CreditWire();
        x.link(1, 1, 1, 1);
        offer(x, 0, 8);
        // Sent at 0, drained at 1, the CREDIT is back at 2 and used in that very CYCLE.
        x.run(2);
        check.due("sent", x.look(0, 7), 1);
        x.run(1);
        check.due("sent", x.look(0, 7), 2);
        check.due("CREDITS", x.look(0, 2), 0);
    }

    private static void drainsOneOfEachChannelInACycle() {
        CreditWire x = new CreditWire();
        x.link(2, 1, 1, 4);
        x.mask(0);
        offer(x, 0, 16);
        offer(x, 1, 4);
        offer(x, 1, 4);
        x.run(10);
        check.due("buffer of 0", x.look(0, 5), 4);
        check.due("buffer of 1", x.look(1, 5), 2);
        x.free();
        check.due("run(1)", x.run(1), 1);
        check.due("buffer of 0", x.look(0, 5), 3);
        check.due("buffer of 1", x.look(1, 5), 1);
        check.due("run(1)", x.run(1), 1);
        check.due("run(1)", x.run(1), 0);
        check.due("run(1)", x.run(1), 1);
    }

    private static void turns() {
        CreditWire x = new CreditWire();
        x.link(3, 1, 1, 16);
        offer(x, 0, 12);
        offer(x, 2, 12);
        senders(x, "TURNS of 0 and 2", "0 2 0 2 0 2 -");
        offer(x, 1, 8);
        offer(x, 2, 8);
        offer(x, 0, 8);
        senders(x, "TURNS behind 2", "0 1 2 0 1 2 -");
    }

    private static void turnsSkipWhoIsNotAble() {
        CreditWire x = new CreditWire();
        x.link(3, 3, 3, 16);
        x.depth(1, 1);
        offer(x, 0, 16);
        offer(x, 1, 16);
        senders(x, "TURNS, 1 with one CREDIT", "0 1 0 0 0 - - 1 - - - - - 1");
        check.due("stalled", x.count(10), 7);
        check.due("last stays when none is sent", x.count(8), 1);
    }

    private static void least() {
        CreditWire x = new CreditWire();
        x.link(3, 2, 2, 2);
        x.arbiter(1);
        offer(x, 2, 8);
        offer(x, 1, 16);
        offer(x, 0, 12);
        // Two CREDITS each, that come back four CYCLES behind their sending.
        senders(x, "LEAST", "0 0 1 1 0 2 1 1 2 -");
    }

    private static void weights() {
        CreditWire x = new CreditWire();
        x.link(3, 1, 1, 16);
        x.weight(0, 3);
        x.weight(1, 2);
        x.arbiter(2);
        offer(x, 0, 28);
        offer(x, 1, 20);
        offer(x, 2, 8);
        senders(x, "WEIGHTS 3, 2, 1", "0 0 0 1 1 2 0 0 0 1 1 2 0 1 -");
    }

    private static void weightsBeginARowByTurns() {
        CreditWire x = new CreditWire();
        x.link(2, 1, 1, 16);
        x.weight(1, 2);
        x.arbiter(2);
        offer(x, 1, 20);
        int[] due = {1, 2, 1, 2, 1};
        for (int inRow : due) {
            x.run(1);
            check.due("alone by WEIGHTS, count(9)", x.count(9), inRow);
        }
    }

    private static void weightsGoOnBehindAnotherArbiter() {
        CreditWire x = new CreditWire();
        x.link(2, 1, 1, 16);
        x.weight(0, 3);
        offer(x, 0, 28);
        x.run(2);
        check.due("two by TURNS in a row", x.count(9), 2);
        offer(x, 1, 8);
        x.arbiter(2);
        senders(x, "WEIGHTS behind two by TURNS", "0 1 0 0 0 1 0 -");
        offer(x, 1, 16);
        x.arbiter(1);
        x.run(4);
        check.due("a row by LEAST", x.count(9), 4);
        offer(x, 0, 4);
        offer(x, 1, 8);
        x.weight(1, 5);
        x.arbiter(2);
        senders(x, "WEIGHTS behind four by LEAST", "1 0 1 -");
    }

    private static void rowOutlastsIdleCycles() {
        CreditWire x = new CreditWire();
        x.link(2, 1, 1, 16);
        x.weight(0, 2);
        x.arbiter(2);
        offer(x, 0, 4);
        x.run(50);
        offer(x, 0, 8);
        offer(x, 1, 4);
        check.due("in a row", x.count(9), 1);
        senders(x, "WEIGHTS behind idle CYCLES", "0 1 0 -");
    }

    private static void whole() {
        CreditWire x = new CreditWire();
        x.link(3, 1, 1, 16);
        x.arbiter(3);
        offer(x, 1, 12);
        offer(x, 0, 8);
        offer(x, 1, 8);
        offer(x, 2, 0);
        senders(x, "WHOLE", "0 0 1 1 1 2 1 1 -");
    }

    private static void wholeWaitsForItsCredits() {
        CreditWire x = new CreditWire();
        x.link(2, 2, 2, 16);
        x.depth(0, 1);
        x.arbiter(3);
        offer(x, 0, 8);
        offer(x, 1, 8);
        senders(x, "WHOLE without CREDITS", "0 - - - 0 1 1 -");
        check.due("stalled", x.count(10), 3);
    }

    private static void wholeTakesTheLeastOfSeveral() {
        CreditWire x = new CreditWire();
        x.link(3, 1, 1, 16);
        offer(x, 2, 12);
        offer(x, 1, 12);
        offer(x, 0, 4);
        x.run(3);
        x.arbiter(3);
        offer(x, 0, 8);
        senders(x, "WHOLE with two begun", "1 1 2 2 0 0 -");
    }

    private static void offer(CreditWire x, int v, int bytes) {
        for (int left = bytes; left > 0; left -= 16) {
            x.feed(Math.min(left, 16), 0x0102030405060708L, 0);
        }
        x.offer(v);
    }

    /** Runs a CYCLE for each word: the CHANNEL that is to send in it, '-' for none. */
    private static void senders(CreditWire x, String name, String due) {
        StringBuilder got = new StringBuilder();
        for (int i = 0; i < due.split(" ").length; i++) {
            int[] before = sentOfEach(x);
            x.run(1);
            int[] behind = sentOfEach(x);
            String who = "-";
            for (int v = 0; v < before.length; v++) {
                if (behind[v] != before[v]) {
                    who = String.valueOf(v);
                    check.due(name + ", count(8)", x.count(8), v);
                }
            }
            got.append(i == 0 ? "" : " ").append(who);
        }
        check.dueText(name, got.toString(), due);
    }

    private static int[] sentOfEach(CreditWire x) {
        int[] sent = new int[x.count(1)];
        for (int v = 0; v < sent.length; v++) {
            sent[v] = x.look(v, 7);
        }
        return sent;
    }

    /** The CYCLE behind which look(v, what) first is due. */
    private static int runUntil(CreditWire x, int v, int what, int due) {
        for (int i = 0; i < 100; i++) {
            x.run(1);
            if (x.look(v, what) == due) {
                return x.count(0) - 1;
            }
        }
        return -1;
    }
}
