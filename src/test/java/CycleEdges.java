/** "Terms" 2: a CYCLE in its order, (a) to (c) and (e), and LATEST. ArbiterEdges has (d). */
final class CycleEdges {
    private final Check check;
    private final Sentences s;

    CycleEdges(Check check, Sentences s) {
        this.check = check;
        this.s = s;
    }

    void upToDraining() {
        s.test("A CYCLE, in this order:", this::order);
        s.test("(a) Each CREDIT that was given back BACK CYCLES ago comes to its CHANNEL's CREDITS.",
                this::creditsComeBack);
        s.test("(b) The FLIT that was sent WIRE CYCLES ago, if one was,", this::flitComes);
        s.test("comes behind those in its CHANNEL's BUFFER.", this::flitComesBehind);
        s.test("(c) The MASK of this CYCLE: that which is told by row CLOCK modulo how many rows "
                + "there are;", () -> {
            rowsGoRound();
            rowsGoByTheClock();
        });
        s.test("all CHANNELS, if there is no row.", this::allWithoutARow);
        s.test("Of each CHANNEL whose bit (CHANNEL v: bit v) is in it", this::bitOfEachChannel);
        s.test("the first FLIT in its BUFFER, if there is one, is DRAINED:", this::firstIsDrained);
        s.test("it comes to the PACKET that is put together there,", this::putTogether);
        s.test("and a CREDIT of the CHANNEL is given back.", this::creditIsGivenBack);
        s.test("With a PACKET's last FLIT this has ARRIVED.", this::arrivesWithItsLastFlit);
    }

    void behindSending() {
        s.test("(e) The CLOCK is one more.", this::clockIsOneMore);
        s.test("LATEST of a PACKET is the sum of the CLOCK at which it was offered, WIRE, its "
                + "CHANNEL's DEPTH then, and n times the sum of WIRE, BACK and how many CHANNELS "
                + "there are,", this::latest);
        s.test("n being the FLITS of its CHANNEL that waited then, its own among them.",
                this::latestOfThoseThatWait);
    }

    private void order() {
        Tested x = Steps.linked(1, 1, 1, 1);
        x.offer(0);
        x.offer(0);
        x.run(1);
        check.due("sent in CYCLE 0", x.look(0, 7), 1);
        check.due("(b) ahead of (c): drained as it comes", x.run(1), 1);
        check.due("BUFFER behind CYCLE 1", x.look(0, 5), 0);
        check.due("(a) was ahead of (c): the CREDIT is on its way", x.look(0, 3), 1);
        check.due("sent in CYCLE 1", x.look(0, 7), 1);
        x.run(1);
        check.due("(a) ahead of (d): sent by the CREDIT that comes", x.look(0, 7), 2);
        check.due("CREDITS behind CYCLE 2", x.look(0, 2), 0);
        x.run(1);
        check.dueText("(e) last: CYCLES of sending", Steps.ofPackets(x, 4, 2), "0 2");
        check.dueText("(e) last: CYCLES of arriving", Steps.ofPackets(x, 5, 2), "1 3");
    }

    private void creditsComeBack() {
        for (int back = 1; back <= 16; back++) {
            Tested x = Steps.linked(2, 1, back, 4);
            Steps.offer(x, 0, 12);
            Steps.offer(x, 1, 4);
            // CHANNEL 0 sends in CYCLES 0, 2, 3 and CHANNEL 1 in 1; each is drained one later.
            for (int t = 0; t < 24; t++) {
                x.run(1);
                int due0 = 4 - since(t, 0) - since(t, 2) - since(t, 3)
                        + since(t, 1 + back) + since(t, 3 + back) + since(t, 4 + back);
                int due1 = 4 - since(t, 1) + since(t, 2 + back);
                check.dueText("CREDITS behind CYCLE " + t + ", BACK " + back, Steps.ofAll(x, 2),
                        due0 + " " + due1);
            }
        }
        Tested y = Steps.linked(3, 1, 2, 4);
        y.mask(0);
        for (int v = 0; v < 3; v++) {
            Steps.offer(y, v, 4);
        }
        y.run(5);
        y.free();
        y.run(2);
        check.dueText("three on their way", Steps.ofAll(y, 2), "3 3 3");
        y.run(1);
        check.dueText("three come in one CYCLE", Steps.ofAll(y, 2), "4 4 4");
    }

    private static int since(int t, int cycle) {
        return t >= cycle ? 1 : 0;
    }

    private void flitComes() {
        for (int wire = 1; wire <= 16; wire++) {
            Tested x = Steps.linked(1, wire, 1, 4);
            x.mask(0);
            x.offer(0);
            x.run(2);
            x.offer(0);
            // Sent in CYCLES 0 and 2, none in 1 and from 3 on.
            for (int t = 2; t < 2 + 3 * 16; t++) {
                x.run(1);
                check.due("FLITS in the BUFFER behind CYCLE " + t + ", WIRE " + wire,
                        x.look(0, 5), since(t, wire) + since(t, wire + 2));
                check.due("FLITS on the wire", x.look(0, 4),
                        2 - since(t, wire) - since(t, wire + 2));
            }
        }
    }

    private void flitComesBehind() {
        Tested x = Steps.linked(2, 1, 1, 3);
        for (int bits : new int[] {0, 0, 0, 3}) {
            x.mask(bits);
        }
        Steps.offer(x, 0, 60);
        Steps.offer(x, 1, 60);
        for (int t = 0; t < 70; t++) {
            x.run(1);
            for (int v = 0; v < 2; v++) {
                int first = x.aside().buffer(v, 0, 2);
                for (int i = 1; i < x.aside().look(v, 5); i++) {
                    check.dueText("place " + i + " behind CYCLE " + t, Steps.buffered(x, v, i),
                            v + " " + v + " " + (first + i) + " 4");
                }
            }
        }
        check.due("the BUFFER was full", x.look(0, 11), 3);
    }

    /** Only the last row is open: with so many rows one FLIT of 16 is drained a round. */
    private void rowsGoRound() {
        for (int rows : new int[] {1, 2, 3, 5, 16, 31, 32}) {
            Tested x = Steps.linked(1, 1, 1, 16);
            for (int i = 1; i <= rows; i++) {
                x.mask(i < rows ? 0 : 1);
            }
            Steps.offer(x, 0, 60);
            int drained = 0;
            for (int t = 0; t < 70; t++) {
                x.run(1);
                int landed = Math.min(t, 15);
                if (t % rows == rows - 1 && drained < landed) {
                    drained++;
                }
                check.due("BUFFER behind CYCLE " + t + " of " + rows + " rows", x.look(0, 5),
                        landed - drained);
            }
        }
    }

    /** The CLOCK counts, not how long the rows stand; one more row changes the modulo. */
    private void rowsGoByTheClock() {
        Tested x = Steps.linked(1, 1, 1, 16);
        x.run(5000);
        x.mask(0);
        Steps.offer(x, 0, 60);
        x.run(20);
        check.due("BUFFER at CLOCK 5020", x.look(0, 5), 15);
        x.mask(0);
        x.mask(1);
        // 5020 modulo 3 is 1, 5021 modulo 3 is 2.
        check.dueText("BUFFER from CYCLE 5020 on", Steps.looks(x, 0, 5, 5), "15 14 14 14 13");
        x.mask(0);
        // 5025 modulo 4 is 1, 5026 modulo 4 is 2.
        check.dueText("BUFFER from CYCLE 5025 on", Steps.looks(x, 0, 5, 6), "13 12 12 12 12 11");
        x.free();
        x.mask(0);
        x.mask(1);
        // 5031 modulo 2 is 1.
        check.dueText("BUFFER from CYCLE 5031 on", Steps.looks(x, 0, 5, 3), "10 10 9");
    }

    /** Two FLITS (a PACKET each) stand in the BUFFER of every CHANNEL, and no row. */
    private static Tested filled() {
        Tested x = Steps.linked(8, 1, 1, 4);
        x.mask(0);
        for (int k = 0; k < 16; k++) {
            Steps.offer(x, k % 8, 4);
        }
        x.run(20);
        x.free();
        return x;
    }

    private void allWithoutARow() {
        Tested x = filled();
        check.due("run(1)", x.run(1), 8);
        check.dueText("BUFFERS", Steps.ofAll(x, 5), "1 1 1 1 1 1 1 1");
        check.due("run(1)", x.run(1), 8);
        Tested y = filled();
        y.mask(0);
        check.due("run(9) with a row", y.run(9), 0);
        y.free();
        check.due("run(1) when it is gone", y.run(1), 8);
    }

    private void bitOfEachChannel() {
        for (int v = 0; v < 8; v++) {
            Tested x = filled();
            x.mask(1 << v);
            check.due("run(1) with bit " + v, x.run(1), 1);
            check.due("BUFFER of " + v, x.look(v, 5), 1);
            Tested y = filled();
            y.mask(~(1 << v));
            check.due("run(1) without bit " + v, y.run(1), 7);
            check.due("BUFFER of " + v, y.look(v, 5), 2);
        }
        Tested z = filled();
        z.mask(0xA5);
        check.due("run(1) with bits 0, 2, 5, 7", z.run(1), 4);
        check.dueText("BUFFERS", Steps.ofAll(z, 5), "1 2 1 2 2 1 2 1");
    }

    private void firstIsDrained() {
        Tested x = Steps.linked(2, 1, 3, 4);
        x.mask(0);
        Steps.offer(x, 0, 10);
        x.run(6);
        x.free();
        check.dueText("first of three", Steps.buffered(x, 0, 0), "0 0 0 4");
        x.run(1);
        check.due("one is drained in a CYCLE", x.look(0, 5), 2);
        check.dueText("first of two", Steps.buffered(x, 0, 0), "0 0 1 4");
        x.run(1);
        check.dueText("first of one", Steps.buffered(x, 0, 0), "0 0 2 2");
        check.dueText("place 1", Steps.buffered(x, 0, 1), "-1 -1 -1 -1");
        check.due("the last is drained", x.run(1), 1);
        check.due("run(9) with empty BUFFERS", x.run(9), 0);
        check.dueText("CREDITS with empty BUFFERS", Steps.ofAll(x, 2), "4 4");
        check.dueText("CREDITS on their way", Steps.ofAll(x, 3), "0 0");
        check.dueText("PACKETS that ARRIVED", Steps.ofAll(x, 8), "1 0");
    }

    private void putTogether() {
        Tested x = Steps.linked(2, 1, 1, 16);
        Steps.offer(x, 0, 10);
        Steps.offer(x, 1, 9);
        Steps.offer(x, 0, 7);
        // The two CHANNELS take turns, so both PACKETS are put together at a time.
        String bytes = "";
        for (int t = 0; t < 10; t++) {
            x.run(1);
            bytes += Steps.ofAll(x, 10) + (t < 9 ? ", " : "");
        }
        check.dueText("bytes put together", bytes,
                "0 0, 4 0, 4 4, 8 4, 8 8, 0 8, 0 0, 4 0, 0 0, 0 0");
        int[] lengths = {10, 9, 7};
        for (int k = 0; k < 3; k++) {
            check.due("take", x.take(k & 1), k);
            check.due("bytes of " + k, Steps.answered(x, lengths[k]), lengths[k]);
            check.due("byte behind the last of " + k, x.answer(lengths[k]), -1);
        }
    }

    private void creditIsGivenBack() {
        for (int back : new int[] {1, 2, 15, 16}) {
            Tested x = Steps.linked(2, 1, back, 3);
            Steps.offer(x, 1, 4);
            x.run(1);
            check.dueText("on their way ahead of the drain", Steps.ofAll(x, 3), "0 0");
            x.run(1);
            check.dueText("on their way behind the drain", Steps.ofAll(x, 3), "0 1");
            check.due("back(1, BACK - 1)", x.back(1, back - 1), 1);
            check.due("back(0, BACK - 1)", x.back(0, back - 1), 0);
            x.run(back);
            check.dueText("on their way BACK CYCLES later", Steps.ofAll(x, 3), "0 0");
            check.dueText("CREDITS BACK CYCLES later", Steps.ofAll(x, 2), "3 3");
        }
    }

    private void arrivesWithItsLastFlit() {
        Tested x = Steps.linked(1, 1, 1, 16);
        Steps.offer(x, 0, 60);
        x.offer(0);
        check.due("run up to its last FLIT", x.run(15), 0);
        check.due("packet(0, 5) ahead of it", x.packet(0, 5), -1);
        check.due("take(0) ahead of it", x.take(0), -1);
        check.due("run of its last FLIT", x.run(1), 1);
        check.due("packet(0, 5)", x.packet(0, 5), 15);
        check.due("look(0, 8)", x.look(0, 8), 1);
        check.due("run of a PACKET of one FLIT", x.run(1), 1);
        check.due("packet(1, 5)", x.packet(1, 5), 16);
        check.due("look(0, 8)", x.look(0, 8), 2);
    }

    private void clockIsOneMore() {
        Tested x = new Tested();
        for (int t = 1; t <= 40; t++) {
            x.run(1);
            check.due("CLOCK with nothing to do", x.count(0), t);
        }
        Steps.offer(x, 0, 60);
        check.dueText("CLOCK with FLITS", Steps.counts(x, 0, 5), "41 42 43 44 45");
    }

    private void latest() {
        int[][] links = {{1, 1, 1, 1}, {8, 16, 16, 16}, {3, 5, 7, 11}};
        for (int[] l : links) {
            Tested x = Steps.linked(l[0], l[1], l[2], l[3]);
            x.offer(l[0] - 1);
            check.due("LATEST at CLOCK 0", x.packet(0, 6), l[1] + l[3] + l[1] + l[2] + l[0]);
            x.run(5000);
            Steps.offer(x, 0, 60);
            check.due("LATEST at CLOCK 5000", x.packet(1, 6),
                    5000 + l[1] + l[3] + 15 * (l[1] + l[2] + l[0]));
        }
        Tested y = Steps.linked(2, 3, 4, 5);
        y.offer(0);
        y.depth(0, 16);
        y.offer(0);
        y.offer(1);
        check.dueText("LATEST by the DEPTH of then", Steps.ofPackets(y, 6, 3), "17 37 17");
    }

    private void latestOfThoseThatWait() {
        Tested x = Steps.linked(2, 3, 4, 5);
        Steps.offer(x, 0, 60);
        check.due("15 of its own", x.packet(0, 6), 8 + 15 * 9);
        Steps.offer(x, 1, 5);
        check.due("none of another CHANNEL", x.packet(1, 6), 8 + 2 * 9);
        Steps.offer(x, 0, 0);
        check.due("15 of an earlier one, one of its own", x.packet(2, 6), 8 + 16 * 9);
        x.run(4);
        check.dueText("FLITS that wait", Steps.ofAll(x, 6), "14 0");
        Steps.offer(x, 0, 4);
        check.due("none that was sent", x.packet(3, 6), 4 + 8 + 15 * 9);
        Steps.offer(x, 1, 0);
        check.due("its own alone", x.packet(4, 6), 4 + 8 + 9);
        x.run(5000);
        check.dueText("LATEST stays", Steps.ofPackets(x, 6, 5), "143 26 152 147 21");
    }
}
