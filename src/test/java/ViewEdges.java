/** Promises 13 to 18: look, packet, wire, buffer, back, count. */
final class ViewEdges {
    private static final int MIN = Steps.MIN;
    private static final int MAX = Steps.MAX;
    private static final String NO_FLIT = "-1 -1 -1 -1";

    private final Check check;
    private final Sentences s;

    ViewEdges(Check check, Sentences s) {
        this.check = check;
        this.s = s;
    }

    void all() {
        promise13();
        promise14();
        promise15();
        promise16();
        promise17();
        promise18();
    }

    private void promise13() {
        s.section("Promise 13:");
        s.test("Of CHANNEL v: 0 its DEPTH,", this::lookDepth);
        s.test("1 WEIGHT,", this::lookWeight);
        s.test("2 CREDITS,", this::lookCredits);
        s.test("3 CREDITS on their way back,", this::lookCreditsOnTheirWay);
        s.test("4 FLITS on the wire,", this::lookOnTheWire);
        s.test("5 in its BUFFER,", this::lookInBuffer);
        s.test("6 that wait at the sender,", this::lookWaiting);
        s.test("7 FLITS that were sent,", this::lookSent);
        s.test("8 PACKETS that ARRIVED,", this::lookArrived);
        s.test("9 those of them that were not taken,", this::lookNotTaken);
        s.test("10 bytes of the PACKET that is being put together (0 without),", this::lookTogether);
        s.test("11 the most FLITS that its BUFFER ever had behind (b) of a CYCLE.", this::lookMost);
        s.test("NONE if there is no such CHANNEL,", this::lookAtNoChannel);
        s.test("or for another what.", this::lookForAnother);
        s.endSection();
    }

    private void promise14() {
        s.section("Promise 14:");
        s.test("Of PACKET k: 0 its CHANNEL,", () -> packetTells(0, "7 0 7 3"));
        s.test("1 bytes,", () -> packetTells(1, "60 0 1 8"));
        s.test("2 FLITS,", () -> packetTells(2, "15 1 1 2"));
        s.test("3 the CLOCK at which it was offered,", () -> packetTells(3, "0 0 2 5002"));
        s.test("4 that at which the CYCLE began in which its first FLIT was sent (NONE),",
                this::packetFirstSent);
        s.test("5 that in which it ARRIVED (NONE),", this::packetArrived);
        s.test("6 LATEST,", () -> packetTells(6, "197 22 199 5043"));
        s.test("7 1 if it was taken, else 0.", this::packetTaken);
        s.test("NONE if there is none such,", this::packetNone);
        s.test("or for another what.", this::packetForAnother);
        s.endSection();
    }

    private void promise15() {
        s.section("Promise 15:");
        s.test("Of the FLIT on the wire that comes in the i-th CYCLE from now on (0: the next one):",
                this::wirePlaces);
        s.test("0 its CHANNEL,", () -> wireTells(0, "2 0 2 1 2 -1"));
        s.test("1 its PACKET,", () -> wireTells(1, "0 1 0 2 0 -1"));
        s.test("2 its number there,", () -> wireTells(2, "0 0 1 0 2 -1"));
        s.test("3 its bytes.", () -> wireTells(3, "4 0 4 3 2 -1"));
        s.test("NONE if there is none,", this::wireNone);
        s.test("or for another what.", this::wireForAnother);
        s.endSection();
    }

    private void promise16() {
        s.section("Promise 16:");
        s.test("The same of the i-th FLIT in the BUFFER of CHANNEL v (0 the first).", () -> {
            bufferPlaces();
            bufferNone();
        });
        s.endSection();
    }

    private void promise17() {
        s.section("Promise 17:");
        s.test("How many CREDITS of CHANNEL v come back in the i-th CYCLE from now on (0: the next "
                + "one);", () -> {
            backPlaces();
            backBeyond();
        });
        s.test("0 if there is no such CHANNEL.", this::backOfNoChannel);
        s.endSection();
    }

    private void promise18() {
        s.section("Promise 18:");
        s.test("0 the CLOCK,", () -> countTells(0, 4));
        s.test("1 CHANNELS,", () -> countTells(1, 5));
        s.test("2 WIRE,", () -> countTells(2, 6));
        s.test("3 BACK,", () -> countTells(3, 7));
        s.test("4 the ARBITER,", () -> countTells(4, 1));
        s.test("5 rows of MASKS,", () -> countTells(5, 3));
        s.test("6 PACKETS,", () -> countTells(6, 2));
        s.test("7 bytes of the tape,", this::countTape);
        s.test("8 the CHANNEL that sent last (NONE),", this::countLast);
        s.test("9 FLITS that it sent in a row (0 without),", this::countRow);
        s.test("10 CYCLES in which a FLIT waited and none was sent,", this::countStalled);
        s.test("11 FLITS that found a BUFFER with DEPTH FLITS (always 0),", this::countTooMany);
        s.test("12 PACKETS that ARRIVED in a CYCLE that began behind LATEST though in all CYCLES "
                + "since they were offered there was no row of MASKS and the ARBITER was TURNS "
                + "(always 0).", () -> {
            lateByMasks();
            lateByAnArbiter();
            neverLateByTurns();
        });
        s.test("NONE for another what.", this::countForAnother);
        s.endSection();
    }

    private void lookDepth() {
        Tested x = Steps.linked(3, 1, 1, 16);
        x.depth(1, 1);
        check.dueText("DEPTHS", Steps.ofAll(x, 0), "16 1 16");
        Steps.offer(x, 0, 60);
        x.run(3);
        check.dueText("DEPTHS in use", Steps.ofAll(x, 0), "16 1 16");
    }

    private void lookWeight() {
        Tested x = Steps.linked(3, 1, 1, 16);
        check.dueText("WEIGHTS at first", Steps.ofAll(x, 1), "1 1 1");
        x.weight(1, 15);
        x.run(1);
        x.weight(2, 7);
        check.dueText("WEIGHTS", Steps.ofAll(x, 1), "1 15 7");
    }

    private void lookCredits() {
        Tested x = Steps.linked(2, 2, 3, 3);
        Steps.offer(x, 1, 16);
        // Sent in CYCLES 0, 1, 2, 5; the CREDITS come in 5, 6, 7, 10.
        check.dueText("CREDITS", Steps.looks(x, 1, 2, 12), "2 1 0 0 0 0 1 2 2 2 3 3");
        check.due("CREDITS of the other", x.look(0, 2), 3);
    }

    private void lookCreditsOnTheirWay() {
        Tested x = Steps.linked(2, 2, 3, 3);
        Steps.offer(x, 1, 16);
        // Drained in CYCLES 2, 3, 4, 7; each is on its way for three CYCLES.
        check.dueText("CREDITS on their way", Steps.looks(x, 1, 3, 12), "0 0 1 2 3 2 1 1 1 1 0 0");
        check.due("of the other", x.look(0, 3), 0);
        Tested y = Steps.linked(1, 1, 16, 16);
        Steps.offer(y, 0, 60);
        Steps.offer(y, 0, 4);
        y.run(17);
        check.due("all 16 on their way", y.look(0, 3), 16);
        y.run(1);
        check.due("one has come", y.look(0, 3), 15);
    }

    private void lookOnTheWire() {
        Tested x = Steps.linked(2, 3, 1, 16);
        Steps.offer(x, 0, 16);
        Steps.offer(x, 1, 4);
        check.dueText("of 0, sent in CYCLES 0, 2, 3, 4", Steps.looks(x, 0, 4, 8), "1 1 2 2 3 2 1 0");
        Tested y = Steps.linked(2, 3, 1, 16);
        Steps.offer(y, 0, 16);
        Steps.offer(y, 1, 4);
        check.dueText("of 1, sent in CYCLE 1", Steps.looks(y, 1, 4, 6), "0 1 1 1 0 0");
        Tested z = Steps.linked(1, 16, 1, 16);
        Steps.offer(z, 0, 60);
        Steps.offer(z, 0, 60);
        z.run(16);
        check.due("a full wire", z.look(0, 4), 16);
        z.run(1);
        check.due("one has come, none could be sent", z.look(0, 4), 15);
    }

    private void lookInBuffer() {
        Tested x = Steps.linked(2, 1, 1, 16);
        x.mask(0);
        Steps.offer(x, 1, 60);
        Steps.offer(x, 1, 8);
        check.dueText("BUFFER", Steps.looks(x, 1, 5, 18),
                "0 1 2 3 4 5 6 7 8 9 10 11 12 13 14 15 16 16");
        check.due("BUFFER of the other", x.look(0, 5), 0);
        x.free();
        check.dueText("BUFFER when it is drained", Steps.looks(x, 1, 5, 3), "15 14 14");
    }

    private void lookWaiting() {
        Tested x = Steps.linked(2, 1, 1, 1);
        check.dueText("at first", Steps.ofAll(x, 6), "0 0");
        Steps.offer(x, 1, 60);
        x.offer(1);
        check.dueText("15 and one without a byte", Steps.ofAll(x, 6), "0 16");
        check.dueText("as they are sent", Steps.looks(x, 1, 6, 5), "15 15 14 14 13");
        x.run(100);
        check.dueText("at the end", Steps.ofAll(x, 6), "0 0");
    }

    private void lookSent() {
        Tested x = Steps.linked(2, 1, 1, 1);
        Steps.offer(x, 1, 8);
        x.offer(1);
        check.dueText("as they are sent", Steps.looks(x, 1, 7, 7), "1 1 2 2 3 3 3");
        x.take(1);
        check.dueText("of both", Steps.ofAll(x, 7), "0 3");
    }

    private void lookArrived() {
        Tested x = Steps.linked(2, 1, 1, 16);
        Steps.offer(x, 1, 8);
        x.offer(1);
        check.dueText("as they arrive", Steps.looks(x, 1, 8, 5), "0 0 1 2 2");
        x.take(1);
        check.dueText("of both", Steps.ofAll(x, 8), "0 2");
    }

    private void lookNotTaken() {
        Tested x = Steps.linked(2, 1, 1, 16);
        Steps.offer(x, 1, 8);
        x.offer(1);
        check.dueText("as they arrive", Steps.looks(x, 1, 9, 5), "0 0 1 2 2");
        x.take(0);
        x.take(1);
        check.dueText("one taken", Steps.ofAll(x, 9), "0 1");
        x.take(1);
        x.take(1);
        check.dueText("both taken", Steps.ofAll(x, 9), "0 0");
    }

    private void lookTogether() {
        Tested x = Steps.linked(2, 1, 1, 16);
        Steps.offer(x, 0, 10);
        Steps.offer(x, 0, 8);
        x.offer(0);
        Steps.offer(x, 0, 5);
        check.dueText("bytes", Steps.looks(x, 0, 10, 10), "0 4 8 0 4 0 0 4 0 0");
        Tested y = Steps.linked(1, 1, 1, 16);
        Steps.offer(y, 0, 60);
        y.run(15);
        check.due("bytes ahead of the last FLIT", y.look(0, 10), 56);
        y.run(1);
        check.due("bytes behind the last FLIT", y.look(0, 10), 0);
    }

    private void lookMost() {
        Tested x = Steps.linked(2, 1, 1, 16);
        check.due("at first", x.look(1, 11), 0);
        Steps.offer(x, 1, 8);
        x.run(5);
        check.due("one that is drained as it comes counts", x.look(1, 11), 1);
        x.mask(0);
        Steps.offer(x, 1, 12);
        x.run(5);
        check.due("three pile up", x.look(1, 11), 3);
        x.free();
        x.run(5);
        Steps.offer(x, 1, 4);
        x.run(5);
        check.due("the most stays", x.look(1, 11), 3);
        x.mask(0);
        Steps.offer(x, 1, 60);
        Steps.offer(x, 1, 60);
        x.run(50);
        check.due("a full BUFFER", x.look(1, 11), 16);
        check.due("of the other", x.look(0, 11), 0);
        Tested y = Steps.linked(1, 1, 1, 3);
        for (int bits : new int[] {0, 0, 1, 1}) {
            y.mask(bits);
        }
        Steps.offer(y, 0, 12);
        // They come in CYCLES 1, 2, 3; in 2 and 3 one is drained, so behind each CYCLE one is left.
        y.run(9);
        check.due("behind (b), not behind the CYCLE", y.look(0, 11), 2);
    }

    private void lookAtNoChannel() {
        for (int channels : new int[] {1, 4, 8}) {
            Tested x = Steps.linked(channels, 1, 1, 1);
            for (int v : new int[] {-1, channels, 8, 9, MIN, MAX}) {
                for (int what = 0; what <= 11; what++) {
                    check.due("look(" + v + ", " + what + ")", x.look(v, what), -1);
                }
            }
            check.due("look at the last CHANNEL", x.look(channels - 1, 0), 1);
        }
    }

    private void lookForAnother() {
        Tested x = Steps.busy();
        for (int what : new int[] {-1, 12, 13, MIN, MAX}) {
            check.due("look(0, " + what + ")", x.look(0, what), -1);
            check.due("look(3, " + what + ")", x.look(3, what), -1);
        }
    }

    /** Four PACKETS, two of them offered at CLOCK 0, one at 2 and one at 5002. */
    private static Tested fourPackets() {
        Tested x = Steps.linked(8, 1, 3, 16);
        x.depth(0, 9);
        Steps.offer(x, 7, 60);
        x.offer(0);
        x.run(2);
        Steps.offer(x, 7, 1);
        x.run(5000);
        Steps.offer(x, 3, 8);
        return x;
    }

    private void packetTells(int what, String due) {
        Tested x = fourPackets();
        // LATEST: 17 + 15 * 12, 10 + 12, 2 + 17 + 15 * 12 (14 wait besides), 5002 + 17 + 2 * 12.
        check.dueText("packet(k, " + what + ")", Steps.ofPackets(x, what, 4), due);
        x.run(100);
        x.take(7);
        check.dueText("packet(k, " + what + ") later", Steps.ofPackets(x, what, 4), due);
    }

    private void packetFirstSent() {
        Tested x = Steps.linked(2, 2, 3, 1);
        Steps.offer(x, 0, 12);
        Steps.offer(x, 1, 4);
        Steps.offer(x, 1, 4);
        check.dueText("when they wait", Steps.ofPackets(x, 4, 3), "-1 -1 -1");
        x.run(1);
        check.dueText("behind CYCLE 0", Steps.ofPackets(x, 4, 3), "0 -1 -1");
        x.run(1);
        check.dueText("behind CYCLE 1", Steps.ofPackets(x, 4, 3), "0 1 -1");
        x.run(100);
        check.dueText("at the end", Steps.ofPackets(x, 4, 3), "0 1 6");
        x.offer(0);
        x.run(1);
        check.due("without a byte", x.packet(3, 4), 102);
    }

    private void packetArrived() {
        Tested x = Steps.linked(2, 2, 3, 1);
        Steps.offer(x, 0, 8);
        Steps.offer(x, 1, 4);
        // Sent in CYCLES 0 and 5; sent in CYCLE 1.
        x.run(3);
        check.dueText("behind CYCLE 2", Steps.ofPackets(x, 5, 2), "-1 -1");
        x.run(1);
        check.dueText("behind CYCLE 3", Steps.ofPackets(x, 5, 2), "-1 3");
        x.run(3);
        check.dueText("behind CYCLE 6", Steps.ofPackets(x, 5, 2), "-1 3");
        x.run(1);
        check.dueText("behind CYCLE 7", Steps.ofPackets(x, 5, 2), "7 3");
        x.take(0);
        x.run(100);
        check.dueText("at the end", Steps.ofPackets(x, 5, 2), "7 3");
    }

    private void packetTaken() {
        Tested x = new Tested();
        x.offer(0);
        x.offer(0);
        check.dueText("when they wait", Steps.ofPackets(x, 7, 2), "0 0");
        x.run(20);
        check.dueText("when they have ARRIVED", Steps.ofPackets(x, 7, 2), "0 0");
        x.take(1);
        check.dueText("behind take(1)", Steps.ofPackets(x, 7, 2), "0 0");
        x.take(0);
        check.dueText("behind take(0)", Steps.ofPackets(x, 7, 2), "1 0");
    }

    private void packetNone() {
        Tested x = new Tested();
        for (int what = 0; what <= 7; what++) {
            check.due("packet(0, " + what + ") without one", x.packet(0, what), -1);
        }
        x.offer(0);
        for (int k : new int[] {-1, 1, 249, 250, MIN, MAX}) {
            for (int what = 0; what <= 7; what++) {
                check.due("packet(" + k + ", " + what + ")", x.packet(k, what), -1);
            }
        }
        Tested y = Steps.full();
        check.due("packet(249, 2)", y.packet(249, 2), 1);
        check.due("packet(250, 2)", y.packet(250, 2), -1);
    }

    private void packetForAnother() {
        Tested x = new Tested();
        x.offer(0);
        x.run(20);
        x.take(0);
        for (int what : new int[] {-1, 8, 9, MIN, MAX}) {
            check.due("packet(0, " + what + ")", x.packet(0, what), -1);
            check.due("packet(1, " + what + ")", x.packet(1, what), -1);
        }
    }

    private void wirePlaces() {
        for (int wire = 1; wire <= 16; wire++) {
            Tested x = Steps.linked(1, wire, 1, 1);
            x.offer(0);
            for (int t = 0; t <= wire; t++) {
                x.run(1);
                for (int i = 0; i <= 17; i++) {
                    check.due("wire(" + i + ", 1) behind CYCLE " + t + " of WIRE " + wire,
                            x.aside().wire(i, 1), i == wire - 1 - t ? 0 : -1);
                }
            }
        }
    }

    /** Five FLITS of three CHANNELS on the wire, the next CYCLE's first. */
    private void wireTells(int what, String due) {
        Tested x = Steps.linked(3, 5, 1, 16);
        Steps.offer(x, 2, 10);
        x.run(1);
        x.offer(0);
        x.run(2);
        Steps.offer(x, 1, 3);
        x.arbiter(1);
        x.run(2);
        String got = "";
        for (int i = 0; i <= 5; i++) {
            got += (i == 0 ? "" : " ") + x.wire(i, what);
        }
        check.dueText("wire(i, " + what + ")", got, due);
    }

    private void wireNone() {
        Tested x = Steps.linked(1, 16, 1, 16);
        for (int i = 0; i <= 17; i++) {
            check.dueText("wire(" + i + ") of an empty wire", Steps.onWire(x, i), NO_FLIT);
        }
        Steps.offer(x, 0, 60);
        Steps.offer(x, 0, 60);
        x.run(16);
        check.dueText("wire(0) of a full wire", Steps.onWire(x, 0), "0 0 0 4");
        check.dueText("wire(15) of a full wire", Steps.onWire(x, 15), "0 1 0 4");
        for (int i : new int[] {-1, 16, 17, -15, -16, -17, MIN, MIN + 1, MIN + 15, MAX, MAX - 15}) {
            check.dueText("wire(" + i + ") of a full wire", Steps.onWire(x, i), NO_FLIT);
        }
        x.run(1);
        check.dueText("wire(15) when none was sent", Steps.onWire(x, 15), NO_FLIT);
    }

    private void wireForAnother() {
        Tested x = Steps.linked(1, 1, 1, 1);
        x.offer(0);
        x.run(1);
        for (int what : new int[] {-1, 4, 5, MIN, MAX}) {
            check.due("wire(0, " + what + ")", x.wire(0, what), -1);
            check.due("wire(1, " + what + ")", x.wire(1, what), -1);
        }
        check.due("wire(0, 3)", x.wire(0, 3), 0);
    }

    /** CHANNEL 1 has four FLITS in its BUFFER, CHANNEL 0 eight, CHANNEL 2 none. */
    private static Tested buffers() {
        Tested x = Steps.linked(3, 2, 1, 8);
        x.mask(0);
        Steps.offer(x, 1, 9);
        Steps.offer(x, 1, 0);
        Steps.offer(x, 0, 60);
        x.run(20);
        return x;
    }

    private void bufferPlaces() {
        Tested x = buffers();
        String[] due = {"1 0 0 4", "1 0 1 4", "1 0 2 1", "1 1 0 0", NO_FLIT};
        for (int i = 0; i < due.length; i++) {
            check.dueText("buffer(1, " + i + ")", Steps.buffered(x, 1, i), due[i]);
        }
        for (int i = 0; i < 8; i++) {
            check.dueText("buffer(0, " + i + ")", Steps.buffered(x, 0, i), "0 2 " + i + " 4");
        }
        x.free();
        x.mask(2);
        x.run(1);
        check.dueText("buffer(1, 0) behind a drain", Steps.buffered(x, 1, 0), "1 0 1 4");
        check.dueText("buffer(1, 3) behind a drain", Steps.buffered(x, 1, 3), NO_FLIT);
        check.dueText("buffer(0, 0) stays", Steps.buffered(x, 0, 0), "0 2 0 4");
    }

    private void bufferNone() {
        Tested x = buffers();
        check.dueText("of an empty BUFFER", Steps.buffered(x, 2, 0), NO_FLIT);
        for (int i : new int[] {-1, 8, 16, MIN, MAX}) {
            check.dueText("buffer(0, " + i + ") of 8", Steps.buffered(x, 0, i), NO_FLIT);
        }
        for (int v : new int[] {-1, 3, 8, MIN, MAX}) {
            check.dueText("buffer(" + v + ", 0)", Steps.buffered(x, v, 0), NO_FLIT);
        }
        for (int what : new int[] {-1, 4, 5, MIN, MAX}) {
            check.due("buffer(0, 0, " + what + ")", x.buffer(0, 0, what), -1);
            check.due("buffer(2, 0, " + what + ")", x.buffer(2, 0, what), -1);
        }
    }

    private void backPlaces() {
        for (int back = 1; back <= 16; back++) {
            Tested x = Steps.linked(2, 1, back, 1);
            x.offer(1);
            x.run(1);
            for (int t = 1; t <= 1 + back; t++) {
                x.run(1);
                for (int i = 0; i <= 17; i++) {
                    check.due("back(1, " + i + ") behind CYCLE " + t + " of BACK " + back,
                            x.aside().back(1, i), i == back - t ? 1 : 0);
                    check.due("back(0, " + i + ")", x.aside().back(0, i), 0);
                }
            }
        }
        Tested y = Steps.linked(2, 1, 4, 8);
        Steps.offer(y, 1, 8);
        y.run(1);
        Steps.offer(y, 0, 4);
        y.run(3);
        // CHANNEL 1 sends in CYCLES 0 and 2, CHANNEL 0 in 1; each is drained one later.
        check.dueText("CREDITS of 0", Steps.backs(y, 0, 6), "0 0 1 0 0 0");
        check.dueText("CREDITS of 1", Steps.backs(y, 1, 6), "0 1 0 1 0 0");
    }

    private void backBeyond() {
        Tested x = Steps.linked(1, 1, 16, 16);
        Steps.offer(x, 0, 60);
        Steps.offer(x, 0, 4);
        x.run(17);
        check.dueText("a full way back", Steps.backs(x, 0, 18),
                "1 1 1 1 1 1 1 1 1 1 1 1 1 1 1 1 0 0");
        for (int i : new int[] {-1, 16, 17, -15, -16, -17, MIN, MIN + 1, MIN + 15, MAX, MAX - 15}) {
            check.due("back(0, " + i + ")", x.back(0, i), 0);
        }
    }

    private void backOfNoChannel() {
        Tested x = Steps.linked(2, 1, 2, 1);
        x.offer(0);
        x.offer(1);
        x.run(3);
        check.due("back(0, 0)", x.back(0, 0), 1);
        check.due("back(1, 1)", x.back(1, 1), 1);
        for (int v : new int[] {-1, 2, 8, MIN, MAX}) {
            for (int i = -1; i <= 2; i++) {
                check.due("back(" + v + ", " + i + ")", x.back(v, i), 0);
            }
        }
    }

    /** No two of what count tells are alike but by chance. */
    private void countTells(int what, int due) {
        Tested x = Steps.linked(5, 6, 7, 1);
        x.arbiter(1);
        x.mask(0);
        x.mask(-1);
        x.mask(3);
        Steps.offer(x, 3, 8);
        Steps.offer(x, 4, 4);
        x.run(4);
        check.due("count(" + what + ")", x.count(what), due);
    }

    private void countTape() {
        Tested x = new Tested();
        check.due("at first", x.count(7), 0);
        x.feed(11, 0, 0);
        check.due("behind feed(11)", x.count(7), 11);
        x.run(5);
        x.link(2, 1, 1, 1);
        check.due("behind link", x.count(7), 11);
        x.offer(1);
        check.due("behind offer", x.count(7), 0);
        Steps.feed(x, 60);
        check.due("a full tape", x.count(7), 60);
    }

    private void countLast() {
        Tested x = Steps.linked(8, 1, 1, 1);
        check.due("at first", x.count(8), -1);
        x.offer(7);
        check.due("behind an offer", x.count(8), -1);
        x.run(1);
        check.due("behind CYCLE 0", x.count(8), 7);
        x.offer(0);
        x.run(1);
        check.due("behind CYCLE 1", x.count(8), 0);
        x.run(100);
        check.due("it stays when none is sent", x.count(8), 0);
        x.link(8, 1, 1, 1);
        check.due("of a new link", x.count(8), -1);
    }

    private void countRow() {
        Tested x = Steps.linked(2, 1, 1, 16);
        check.due("at first", x.count(9), 0);
        x.run(3);
        check.due("when none was sent", x.count(9), 0);
        Steps.offer(x, 0, 60);
        x.run(15);
        check.due("15 in a row", x.count(9), 15);
        x.run(100);
        check.due("it stays when none is sent", x.count(9), 15);
        x.offer(0);
        x.run(1);
        check.due("and goes on", x.count(9), 16);
        x.offer(1);
        x.run(1);
        check.due("another begins one", x.count(9), 1);
        x.link(2, 1, 1, 1);
        check.due("of a new link", x.count(9), 0);
    }

    private void countStalled() {
        Tested x = Steps.linked(2, 1, 1, 1);
        x.run(7);
        check.due("nothing waits", x.count(10), 0);
        x.mask(0);
        Steps.offer(x, 0, 8);
        x.run(1);
        check.due("one was sent", x.count(10), 0);
        x.run(3);
        check.due("one waits without CREDITS", x.count(10), 3);
        x.offer(1);
        x.run(1);
        check.due("another CHANNEL sends", x.count(10), 3);
        x.free();
        // Drained in CYCLE 12, the CREDIT comes and is used in 13, nothing waits from then on.
        x.run(10);
        check.due("in all", x.count(10), 4);
        Tested y = Steps.linked(2, 1, 1, 1);
        y.mask(0);
        Steps.offer(y, 0, 60);
        Steps.offer(y, 1, 60);
        check.dueText("many wait, in each CYCLE one more", Steps.counts(y, 10, 6), "0 0 1 2 3 4");
    }

    private void countTooMany() {
        for (int depth : new int[] {1, 2, 16}) {
            Tested x = Steps.linked(2, 3, 1, depth);
            x.mask(0);
            for (int k = 0; k < 4; k++) {
                Steps.offer(x, k % 2, 60);
            }
            x.run(100);
            check.dueText("full BUFFERS", Steps.ofAll(x, 5), depth + " " + depth);
            check.due("count(11)", x.count(11), 0);
            x.mask(3);
            check.due("run(1000)", x.run(1000), 4);
            check.due("count(11)", x.count(11), 0);
        }
    }

    private void lateByMasks() {
        Tested x = Steps.linked(1, 1, 1, 1);
        x.mask(0);
        Steps.offer(x, 0, 4);
        x.run(50);
        x.free();
        check.due("run(9)", x.run(9), 1);
        check.due("LATEST", x.packet(0, 6), 5);
        check.due("ARRIVED", x.packet(0, 5), 50);
        check.due("count(12)", x.count(12), 0);
        Tested y = Steps.linked(1, 16, 16, 16);
        y.offer(0);
        y.run(8);
        y.mask(0);
        y.run(100);
        y.free();
        check.due("run(1)", y.run(1), 1);
        check.due("count(12), masked on its way", y.count(12), 0);
    }

    private void lateByAnArbiter() {
        for (int kind : new int[] {1, 2, 3}) {
            Tested x = Steps.linked(2, 1, 1, 16);
            x.arbiter(kind);
            x.weight(0, 15);
            x.depth(1, 1);
            for (int k = 0; k < 4; k++) {
                Steps.offer(x, 0, 60);
            }
            x.offer(1);
            x.run(100);
            check.due("behind LATEST", x.packet(4, 5) > x.packet(4, 6) ? 1 : 0, 1);
            check.due("count(12)", x.count(12), 0);
        }
    }

    private void neverLateByTurns() {
        Tested x = Steps.linked(8, 1, 3, 1);
        x.mask(0);
        for (int k = 0; k < 24; k++) {
            Steps.offer(x, k % 8, 4);
        }
        x.run(40);
        x.free();
        for (int k = 0; k < 24; k++) {
            Steps.offer(x, k % 8, 8);
        }
        x.run(500);
        for (int k = 24; k < 48; k++) {
            check.due("LATEST holds for " + k, x.packet(k, 5) <= x.packet(k, 6) ? 1 : 0, 1);
        }
        check.due("count(12)", x.count(12), 0);
    }

    private void countForAnother() {
        Tested x = Steps.busy();
        for (int what : new int[] {-1, 13, 14, MIN, MAX}) {
            check.due("count(" + what + ")", x.count(what), -1);
        }
    }
}
