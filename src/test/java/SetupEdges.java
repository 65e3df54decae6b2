/** Promises 1 to 7: a new object, link, depth, weight, arbiter, mask, free. */
final class SetupEdges {
    private static final int MIN = Steps.MIN;
    private static final int MAX = Steps.MAX;

    private final Check check;
    private final Sentences s;

    SetupEdges(Check check, Sentences s) {
        this.check = check;
        this.s = s;
    }

    void all() {
        promise1();
        promise2();
        promise3();
        promise4();
        promise5();
        promise6();
        promise7();
    }

    private void promise1() {
        s.section("Promise 1:");
        s.test("As link(4, 3, 2, 4).", this::newObject);
        s.test("An empty tape, an empty ANSWER.", this::emptyAtFirst);
        s.endSection();
    }

    private void promise2() {
        s.section("Promise 2:");
        s.test("A new LINK with so many CHANNELS, WIRE, BACK, DEPTH of all CHANNELS;", () -> {
            newLink();
            nothingOfTheOldLinkStays();
        });
        s.test("WEIGHTS 1,", this::newWeights);
        s.test("ARBITER 0,", this::newArbiter);
        s.test("no rows of MASKS,", this::newRows);
        s.test("no PACKETS,", this::newPackets);
        s.test("nothing that ARRIVED;", this::newArrived);
        s.test("the tape and the ANSWER stay.", this::tapeAndAnswerStay);
        s.test("IllegalArgumentException: one of these is not as told.", this::linkRefused);
        s.endSection();
    }

    private void promise3() {
        s.section("Promise 3:");
        s.test("The DEPTH of CHANNEL v is n: what it was.", this::depth);
        s.test("IllegalArgumentException: there is no such CHANNEL,", this::depthOfNoChannel);
        s.test("or n is not 1 to 16;", this::depthNot1To16);
        s.test("IllegalStateException: the CLOCK is not 0.", this::depthOnlyAtClock0);
        s.endSection();
    }

    private void promise4() {
        s.section("Promise 4:");
        s.test("The WEIGHT of CHANNEL v is n from now on: what it was.", this::weight);
        s.test("IllegalArgumentException: there is no such CHANNEL,", this::weightOfNoChannel);
        s.test("or n is not 1 to 15.", this::weightNot1To15);
        s.endSection();
    }

    private void promise5() {
        s.section("Promise 5:");
        s.test("The ARBITER from now on: what it was.", this::arbiter);
        s.test("(What was sent last, and in a row, stays.)", this::arbiterLeavesTheRow);
        s.test("IllegalArgumentException: kind is not 0 to 3.", this::arbiterRefused);
        s.endSection();
    }

    private void promise6() {
        s.section("Promise 6:");
        s.test("One more row of MASKS", this::oneMoreRow);
        s.test("(bits beyond the CHANNELS don't count)", this::bitsBeyond);
        s.test(": how many there are.", this::maskAnswers);
        s.test("UnsupportedOperationException: there are 32.", this::maskRefused);
        s.endSection();
    }

    private void promise7() {
        s.section("Promise 7:");
        s.test("There are no rows of MASKS any more", this::free);
        s.test(": how many there were.", this::freeAnswers);
        s.endSection();
    }

    private void newObject() {
        Tested x = new Tested();
        Tested y = Steps.linked(4, 3, 2, 4);
        check.dueText("views", Views.all(x), Views.all(y));
        int[] counts = {0, 4, 3, 2, 0, 0, 0, 0, -1, 0, 0, 0, 0, -1};
        for (int what = 0; what < counts.length; what++) {
            check.due("count(" + what + ")", x.count(what), counts[what]);
        }
        int[] looks = {4, 1, 4, 0, 0, 0, 0, 0, 0, 0, 0, 0, -1};
        for (int what = 0; what < looks.length; what++) {
            for (int v = 0; v < 4; v++) {
                check.due("look(" + v + ", " + what + ")", x.look(v, what), looks[what]);
            }
        }
        check.due("look(4, 0)", x.look(4, 0), -1);
        for (Tested one : new Tested[] {x, y}) {
            Steps.offer(one, 3, 30);
            one.run(4);
        }
        check.dueText("views in use", Views.all(x), Views.all(y));
    }

    private void emptyAtFirst() {
        Tested x = new Tested();
        check.due("count(7)", x.count(7), 0);
        check.due("answer(0)", x.answer(0), -1);
        x.offer(0);
        check.due("bytes of a first PACKET", x.packet(0, 1), 0);
    }

    private void newLink() {
        int[][] links = {{1, 1, 1, 1}, {8, 16, 16, 16}, {1, 16, 1, 16}, {8, 1, 16, 1}, {3, 5, 7, 9}};
        Tested x = new Tested();
        for (int[] l : links) {
            x.link(l[0], l[1], l[2], l[3]);
            check.due("CHANNELS", x.count(1), l[0]);
            check.due("WIRE", x.count(2), l[1]);
            check.due("BACK", x.count(3), l[2]);
            for (int v = 0; v < l[0]; v++) {
                check.due("DEPTH of " + v, x.look(v, 0), l[3]);
                check.due("CREDITS of " + v, x.look(v, 2), l[3]);
            }
            check.due("look(" + l[0] + ", 0)", x.look(l[0], 0), -1);
        }
    }

    private void nothingOfTheOldLinkStays() {
        Tested x = Steps.busy();
        x.link(4, 3, 2, 4);
        Tested y = new Tested();
        check.dueText("views", Views.ofLinkAndPackets(x), Views.ofLinkAndPackets(y));
        // What was on the wire or on its way back must not come later either.
        for (int i = 0; i < 20; i++) {
            check.due("run(1)", x.run(1), 0);
            y.run(1);
            check.dueText("views " + i + " CYCLES later", Views.ofLinkAndPackets(x),
                    Views.ofLinkAndPackets(y));
        }
    }

    private void newWeights() {
        Tested x = new Tested();
        x.weight(0, 15);
        x.weight(3, 2);
        x.link(8, 1, 1, 16);
        check.dueText("WEIGHTS", Steps.ofAll(x, 1), "1 1 1 1 1 1 1 1");
    }

    private void newArbiter() {
        for (int kind = 0; kind <= 3; kind++) {
            Tested x = new Tested();
            x.arbiter(kind);
            x.link(2, 1, 1, 16);
            check.due("count(4)", x.count(4), 0);
            Steps.offer(x, 0, 8);
            Steps.offer(x, 1, 8);
            check.dueText("by TURNS", Steps.senders(x, 4), "0 1 0 1");
        }
    }

    private void newRows() {
        Tested x = new Tested();
        x.mask(0);
        x.mask(0);
        x.link(2, 1, 1, 1);
        check.due("count(5)", x.count(5), 0);
        x.offer(0);
        check.due("run(2): drained without a row", x.run(2), 1);
        check.due("mask(1)", x.mask(1), 1);
    }

    private void newPackets() {
        Tested x = Steps.full();
        x.link(2, 1, 1, 1);
        check.due("count(6)", x.count(6), 0);
        check.due("packet(0, 0)", x.packet(0, 0), -1);
        check.dueText("FLITS that wait", Steps.ofAll(x, 6), "0 0");
        check.due("run(9)", x.run(9), 0);
        check.due("offer(1)", x.offer(1), 0);
    }

    private void newArrived() {
        Tested x = Steps.linked(2, 1, 1, 4);
        Steps.offer(x, 0, 4);
        Steps.offer(x, 1, 8);
        x.run(3);
        check.dueText("ARRIVED in the old one", Steps.ofAll(x, 8), "1 0");
        check.dueText("put together in the old one", Steps.ofAll(x, 10), "0 4");
        x.link(2, 1, 1, 4);
        check.dueText("ARRIVED", Steps.ofAll(x, 8), "0 0");
        check.dueText("not taken", Steps.ofAll(x, 9), "0 0");
        check.dueText("put together", Steps.ofAll(x, 10), "0 0");
        check.due("take(0)", x.take(0), -1);
        check.due("take(1)", x.take(1), -1);
    }

    private void tapeAndAnswerStay() {
        Tested x = Steps.busy();
        check.due("bytes of the tape ahead of link", x.count(7), 3);
        check.due("answer(0) ahead of link", x.answer(0), Steps.byteAt(0, 1));
        x.link(4, 3, 2, 4);
        check.due("bytes of the tape", x.count(7), 3);
        check.due("answer(0)", x.answer(0), Steps.byteAt(0, 1));
        check.due("answer(1)", x.answer(1), -1);
        check.due("offer of the tape", x.offer(0), 0);
        check.due("run(30)", x.run(30), 1);
        check.due("take(0)", x.take(0), 0);
        check.due("bytes of the tape that came", Steps.answered(x, 3), 3);
    }

    private void linkRefused() {
        Tested x = Steps.busy();
        String before = Views.all(x);
        int[] least = {1, 1, 1, 1};
        int[] most = {8, 16, 16, 16};
        for (int place = 0; place < 4; place++) {
            for (int bad : new int[] {0, -1, MIN, most[place] + 1, MAX}) {
                for (int[] edge : new int[][] {least, most}) {
                    int[] l = edge.clone();
                    l[place] = bad;
                    check.dueIllegalArgument("link with " + bad + " at place " + place,
                            () -> x.link(l[0], l[1], l[2], l[3]));
                }
            }
        }
        check.dueIllegalArgument("link with all wrong", () -> x.link(0, 0, 0, 0));
        check.dueText("views behind refused ones", Views.all(x), before);
    }

    private void depth() {
        Tested x = new Tested();
        check.due("depth(0, 16)", x.depth(0, 16), 4);
        check.due("depth(0, 1)", x.depth(0, 1), 16);
        check.due("depth(3, 7)", x.depth(3, 7), 4);
        check.due("depth(3, 7) again", x.depth(3, 7), 7);
        check.dueText("DEPTHS", Steps.ofAll(x, 0), "1 4 4 7");
        check.dueText("CREDITS", Steps.ofAll(x, 2), "1 4 4 7");
        Steps.offer(x, 0, 16);
        check.due("depth behind an offer at CLOCK 0", x.depth(0, 2), 1);
        x.run(3);
        check.due("FLITS sent by DEPTH 2", x.look(0, 7), 2);
        check.due("CREDITS left", x.look(0, 2), 0);
    }

    private void depthOfNoChannel() {
        for (int channels : new int[] {1, 4, 8}) {
            Tested x = Steps.linked(channels, 1, 1, 1);
            for (int bad : new int[] {-1, channels, channels + 1, MIN, MAX}) {
                check.dueIllegalArgument("depth(" + bad + ", 2)", () -> x.depth(bad, 2));
            }
            check.due("depth of the last CHANNEL", x.depth(channels - 1, 2), 1);
        }
    }

    private void depthNot1To16() {
        Tested x = new Tested();
        for (int bad : new int[] {0, 17, -1, MIN, MAX}) {
            check.dueIllegalArgument("depth(1, " + bad + ")", () -> x.depth(1, bad));
        }
        check.due("depth(1, 1)", x.depth(1, 1), 4);
        check.due("depth(1, 16)", x.depth(1, 16), 1);
    }

    private void depthOnlyAtClock0() {
        Tested x = new Tested();
        x.run(1);
        check.dueIllegalState("depth(0, 4) at CLOCK 1", () -> x.depth(0, 4));
        check.dueIllegalState("depth(3, 16) at CLOCK 1", () -> x.depth(3, 16));
        check.dueText("DEPTHS", Steps.ofAll(x, 0), "4 4 4 4");
        check.dueText("CREDITS", Steps.ofAll(x, 2), "4 4 4 4");
        x.run(5000);
        check.dueIllegalState("depth(0, 1) at CLOCK 5001", () -> x.depth(0, 1));
        x.link(2, 1, 1, 3);
        check.due("depth(1, 5) of a new link", x.depth(1, 5), 3);
    }

    private void weight() {
        Tested x = Steps.linked(2, 1, 1, 16);
        check.due("weight(1, 15)", x.weight(1, 15), 1);
        check.due("weight(1, 1)", x.weight(1, 1), 15);
        check.due("weight(1, 3)", x.weight(1, 3), 1);
        x.arbiter(2);
        Steps.offer(x, 0, 60);
        Steps.offer(x, 1, 60);
        check.dueText("WEIGHT 3", Steps.senders(x, 5), "0 1 1 1 0");
        check.due("weight(1, 2) while it runs", x.weight(1, 2), 3);
        check.dueText("WEIGHT 2 from now on", Steps.senders(x, 4), "1 1 0 1");
        check.dueText("WEIGHTS", Steps.ofAll(x, 1), "1 2");
    }

    private void weightOfNoChannel() {
        for (int channels : new int[] {1, 4, 8}) {
            Tested x = Steps.linked(channels, 1, 1, 1);
            for (int bad : new int[] {-1, channels, channels + 1, MIN, MAX}) {
                check.dueIllegalArgument("weight(" + bad + ", 2)", () -> x.weight(bad, 2));
            }
            check.due("weight of the last CHANNEL", x.weight(channels - 1, 2), 1);
        }
    }

    private void weightNot1To15() {
        Tested x = new Tested();
        for (int bad : new int[] {0, 16, -1, MIN, MAX}) {
            check.dueIllegalArgument("weight(1, " + bad + ")", () -> x.weight(1, bad));
        }
        check.due("weight(1, 15)", x.weight(1, 15), 1);
        check.due("weight(1, 1)", x.weight(1, 1), 15);
    }

    private void arbiter() {
        Tested x = Steps.linked(3, 1, 1, 16);
        check.due("arbiter(3)", x.arbiter(3), 0);
        check.due("arbiter(2)", x.arbiter(2), 3);
        check.due("arbiter(1)", x.arbiter(1), 2);
        check.due("arbiter(1) again", x.arbiter(1), 1);
        check.due("count(4)", x.count(4), 1);
        for (int v = 0; v < 3; v++) {
            Steps.offer(x, v, 20);
        }
        check.dueText("by LEAST", Steps.senders(x, 2), "0 0");
        check.due("arbiter(0) while it runs", x.arbiter(0), 1);
        check.dueText("by TURNS from now on", Steps.senders(x, 4), "1 2 0 1");
    }

    private void arbiterLeavesTheRow() {
        Tested x = Steps.linked(4, 1, 1, 16);
        check.due("count(8) ahead of any", x.count(8), -1);
        Steps.offer(x, 2, 12);
        x.run(2);
        for (int kind = 3; kind >= 0; kind--) {
            x.arbiter(kind);
            check.due("count(8) behind arbiter(" + kind + ")", x.count(8), 2);
            check.due("count(9) behind arbiter(" + kind + ")", x.count(9), 2);
        }
        x.offer(0);
        x.offer(3);
        check.dueText("TURNS go on behind 2", Steps.senders(x, 3), "3 0 2");
    }

    private void arbiterRefused() {
        Tested x = new Tested();
        x.arbiter(2);
        for (int bad : new int[] {-1, 4, MIN, MAX}) {
            check.dueIllegalArgument("arbiter(" + bad + ")", () -> x.arbiter(bad));
        }
        check.due("count(4)", x.count(4), 2);
        check.due("arbiter(0)", x.arbiter(0), 2);
        check.due("arbiter(3)", x.arbiter(3), 0);
    }

    private void oneMoreRow() {
        Tested x = Steps.linked(1, 1, 1, 16);
        for (int i = 0; i < 32; i++) {
            x.mask(i % 3 == 1 ? 1 : 0);
        }
        check.due("count(5)", x.count(5), 32);
        Steps.offer(x, 0, 60);
        Steps.offer(x, 0, 60);
        // Each row stands at its own place: drained in CYCLES 1, 4, .. 31, and then in 33.
        String due = "";
        int drained = 0;
        for (int t = 0; t < 34; t++) {
            drained += t % 32 % 3 == 1 ? 1 : 0;
            due += (t == 0 ? "" : " ") + 4 * drained;
        }
        check.dueText("bytes put together", Steps.looks(x, 0, 10, 34), due);
    }

    private void bitsBeyond() {
        for (int channels = 1; channels < 8; channels++) {
            Tested x = Steps.linked(channels, 1, 1, 4);
            x.mask(-1 << channels);
            for (int v = 0; v < channels; v++) {
                Steps.offer(x, v, 4);
            }
            check.due("run(20) with bits beyond " + channels, x.run(20), 0);
            check.due("BUFFER of the last CHANNEL", x.look(channels - 1, 5), 1);
        }
        Tested y = Steps.linked(1, 1, 1, 4);
        for (int bits : new int[] {-1, MIN + 1, MAX, 3}) {
            y.free();
            y.mask(bits);
            y.offer(0);
            check.due("run(9) with bits " + bits, y.run(9), 1);
        }
    }

    private void maskAnswers() {
        Tested x = new Tested();
        for (int i = 1; i <= 32; i++) {
            check.due("mask", x.mask(i * 77), i);
            check.due("count(5)", x.count(5), i);
        }
    }

    private void maskRefused() {
        Tested x = Steps.linked(1, 1, 1, 16);
        for (int i = 0; i < 32; i++) {
            x.mask(i == 31 ? 1 : 0);
        }
        check.dueUnsupported("mask(0), the 33rd", () -> x.mask(0));
        check.dueUnsupported("mask(-1), the 33rd", () -> x.mask(-1));
        check.due("count(5)", x.count(5), 32);
        x.offer(0);
        x.offer(0);
        check.due("run(31)", x.run(31), 0);
        check.due("run(1) by row 31", x.run(1), 1);
        check.due("run(31), round again", x.run(31), 0);
        check.due("run(1) by row 31 again", x.run(1), 1);
        x.free();
        check.due("mask(-1) when there is room", x.mask(-1), 1);
    }

    private void free() {
        Tested x = new Tested();
        x.mask(0);
        x.mask(0);
        x.offer(0);
        check.due("run(9) with the MASK 0", x.run(9), 0);
        x.free();
        check.due("count(5)", x.count(5), 0);
        check.due("run(1) without rows", x.run(1), 1);
        check.due("mask(1) behind free", x.mask(1), 1);
    }

    private void freeAnswers() {
        Tested x = new Tested();
        check.due("free() without rows", x.free(), 0);
        x.mask(5);
        check.due("free() of one", x.free(), 1);
        check.due("free() again", x.free(), 0);
        for (int i = 0; i < 32; i++) {
            x.mask(i);
        }
        check.due("free() of 32", x.free(), 32);
        check.due("free() again", x.free(), 0);
    }
}
