/** Promises 8 to 12: feed, offer, run, take, answer. */
final class PacketEdges {
    private static final int MIN = Steps.MIN;
    private static final int MAX = Steps.MAX;

    private final Check check;
    private final Sentences s;

    PacketEdges(Check check, Sentences s) {
        this.check = check;
        this.s = s;
    }

    void all() {
        promise8();
        promise9();
        promise10();
        promise11();
        promise12();
    }

    private void promise8() {
        s.section("Promise 8:");
        s.test("The n first bytes of a and b come behind the tape", this::feedComesBehind);
        s.test("(first those of a, of each the lowest one first)", this::lowestFirst);
        s.test(": how many it has.", this::feedAnswers);
        s.test("IllegalArgumentException: n is not 1 to 16;", this::feedNot1To16);
        s.test("UnsupportedOperationException: it would have more than 60.", this::feedBeyond60);
        s.endSection();
    }

    private void promise9() {
        s.section("Promise 9:");
        s.test("The tape, which is empty then, whatever comes of it,", this::tapeIsEmptyThen);
        s.test("is offered as a PACKET of CHANNEL v: its number.", this::offer);
        s.test("IllegalArgumentException: there is no such CHANNEL;", this::offerToNoChannel);
        s.test("UnsupportedOperationException: there are 250.", this::offerBeyond250);
        s.endSection();
    }

    private void promise10() {
        s.section("Promise 10:");
        s.test("n CYCLES", this::runCycles);
        s.test(": how many PACKETS ARRIVED in them.", this::runAnswers);
        s.test("IllegalArgumentException: n is not 1 to 5000.", this::runRefused);
        s.endSection();
    }

    private void promise11() {
        s.section("Promise 11:");
        s.test("The bytes of the earliest PACKET of CHANNEL v that ARRIVED and was not taken become "
                + "the ANSWER;", this::takeEarliest);
        s.test("it is taken: its number;", this::isTaken);
        s.test("NONE, and the ANSWER stays, if there is none.", this::takeNone);
        s.test("IllegalArgumentException: there is no such CHANNEL.", this::takeOfNoChannel);
        s.endSection();
    }

    private void promise12() {
        s.section("Promise 12:");
        s.test("Byte i of the ANSWER (0 to 255);", this::answerBytes);
        s.test("NONE if there is none such.", this::answerNone);
        s.endSection();
    }

    /** Offers the tape, lets it arrive and takes it: its first bytes. */
    private static String through(Tested x, int bytes) {
        x.offer(0);
        x.run(100);
        x.take(0);
        StringBuilder text = new StringBuilder();
        for (int i = 0; i <= bytes; i++) {
            text.append(i == 0 ? "" : " ").append(x.aside().answer(i));
        }
        return text.toString();
    }

    private void feedComesBehind() {
        Tested x = new Tested();
        x.feed(3, 0x99030201L, -1);
        x.feed(1, 0x9904L, -1);
        x.feed(9, 0x0C0B0A0908070605L, 0x990DL);
        check.dueText("bytes", through(x, 13), "1 2 3 4 5 6 7 8 9 10 11 12 13 -1");
        for (int n = 1; n <= 16; n++) {
            Tested y = new Tested();
            y.feed(n, 0x0807060504030201L, 0x100F0E0D0C0B0A09L);
            String due = "";
            for (int i = 1; i <= n; i++) {
                due += i + " ";
            }
            check.dueText("the " + n + " first", through(y, n), due + "-1");
        }
    }

    private void lowestFirst() {
        Tested x = new Tested();
        x.feed(16, 0x80FF7F0001FE8002L, 0x00000000000000F0L);
        check.dueText("bytes", through(x, 16),
                "2 128 254 1 0 127 255 128 240 0 0 0 0 0 0 0 -1");
        Tested y = new Tested();
        y.feed(8, Long.MIN_VALUE, -1);
        y.feed(9, -1, Long.MAX_VALUE);
        check.dueText("bytes", through(y, 17),
                "0 0 0 0 0 0 0 128 255 255 255 255 255 255 255 255 255 -1");
    }

    private void feedAnswers() {
        Tested x = new Tested();
        check.due("feed(1)", x.feed(1, 0, 0), 1);
        check.due("feed(16)", x.feed(16, 0, 0), 17);
        check.due("feed(8)", x.feed(8, 0, 0), 25);
        check.due("count(7)", x.count(7), 25);
        x.offer(0);
        check.due("feed(2) behind an offer", x.feed(2, 0, 0), 2);
    }

    private void feedNot1To16() {
        Tested x = new Tested();
        for (int bad : new int[] {0, 17, -1, MIN, MAX}) {
            check.dueIllegalArgument("feed(" + bad + ")", () -> x.feed(bad, 1, 1));
        }
        check.due("count(7)", x.count(7), 0);
        check.due("feed(16)", x.feed(16, 1, 1), 16);
        check.due("feed(1)", x.feed(1, 1, 1), 17);
    }

    private void feedBeyond60() {
        for (int n = 1; n <= 16; n++) {
            Tested x = new Tested();
            int some = n;
            for (int i = 0; i < 60 - n; i += 11) {
                x.feed(Math.min(11, 60 - n - i), i, i);
            }
            check.due("feed(" + n + ") up to 60", x.feed(n, -1, -1), 60);
            check.dueUnsupported("feed(" + n + ") behind 60", () -> x.feed(some, 1, 1));
            Tested y = new Tested();
            for (int i = 0; i < 61 - n; i += 11) {
                y.feed(Math.min(11, 61 - n - i), 9, 9);
            }
            check.dueUnsupported("feed(" + n + ") up to 61", () -> y.feed(some, 7, 7));
            check.due("count(7) behind it", y.count(7), 61 - n);
            check.due("bytes of the tape", through(y, 61 - n).contains("7") ? 1 : 0, 0);
        }
        Tested z = new Tested();
        z.feed(16, 0, 0);
        z.feed(16, 0, 0);
        z.feed(16, 0, 0);
        check.dueUnsupported("feed(13) behind 48", () -> z.feed(13, 1, 1));
        check.due("feed(12) behind 48", z.feed(12, 1, 1), 60);
    }

    private void tapeIsEmptyThen() {
        Tested x = new Tested();
        Steps.feed(x, 60);
        x.offer(0);
        check.due("count(7) behind an offer", x.count(7), 0);
        x.offer(0);
        check.due("bytes of the next", x.packet(1, 1), 0);
        Steps.feed(x, 5);
        check.dueIllegalArgument("offer(4)", () -> x.offer(4));
        check.due("count(7) behind one to no CHANNEL", x.count(7), 0);
        check.due("feed(1) behind it", x.feed(1, 0, 0), 1);
        Tested y = Steps.full();
        Steps.feed(y, 60);
        check.dueUnsupported("offer(0) behind 250", () -> y.offer(0));
        check.due("count(7) behind it", y.count(7), 0);
        Steps.feed(y, 60);
        check.dueIllegalArgument("offer(-1) behind 250", () -> y.offer(-1));
        check.due("count(7) behind it", y.count(7), 0);
        check.due("feed(16) behind it", y.feed(16, 0, 0), 16);
    }

    private void offer() {
        Tested x = new Tested();
        check.due("offer(3) of an empty tape", x.offer(3), 0);
        Steps.feed(x, 6);
        check.due("offer(3)", x.offer(3), 1);
        Steps.feed(x, 60);
        check.due("offer(0)", x.offer(0), 2);
        check.dueText("CHANNELS", Steps.ofPackets(x, 0, 3), "3 3 0");
        check.dueText("bytes", Steps.ofPackets(x, 1, 3), "0 6 60");
        check.dueText("FLITS that wait", Steps.ofAll(x, 6), "15 0 0 3");
        check.due("count(6)", x.count(6), 3);
        check.due("run(100)", x.run(100), 3);
        x.take(0);
        check.due("bytes that came", Steps.answered(x, 60), 60);
    }

    private void offerToNoChannel() {
        for (int channels : new int[] {1, 4, 8}) {
            Tested x = Steps.linked(channels, 1, 1, 1);
            for (int bad : new int[] {-1, channels, channels + 1, MIN, MAX}) {
                check.dueIllegalArgument("offer(" + bad + ")", () -> x.offer(bad));
            }
            check.due("count(6)", x.count(6), 0);
            check.due("offer to the last CHANNEL", x.offer(channels - 1), 0);
        }
    }

    private void offerBeyond250() {
        Tested x = Steps.linked(2, 1, 1, 1);
        for (int k = 0; k < 250; k++) {
            check.due("offer", x.offer(k & 1), k);
        }
        check.dueUnsupported("offer(0), the 251st", () -> x.offer(0));
        check.dueUnsupported("offer(1), the 251st", () -> x.offer(1));
        check.due("count(6)", x.count(6), 250);
        check.dueText("FLITS that wait", Steps.ofAll(x, 6), "125 125");
        check.due("run(5000)", x.run(5000), 250);
        x.take(0);
        check.dueUnsupported("offer(0), when all ARRIVED", () -> x.offer(0));
        x.link(2, 1, 1, 1);
        check.due("offer(0) of a new link", x.offer(0), 0);
    }

    private void runCycles() {
        Tested x = new Tested();
        x.run(1);
        check.due("count(0) behind run(1)", x.count(0), 1);
        x.run(5000);
        check.due("count(0) behind run(5000)", x.count(0), 5001);
        Tested atOnce = Steps.busy();
        Tested oneByOne = Steps.busy();
        atOnce.run(13);
        for (int i = 0; i < 13; i++) {
            oneByOne.run(1);
        }
        check.dueText("run(13), as 13 times run(1)", Views.all(atOnce), Views.all(oneByOne));
        Tested z = Steps.linked(2, 16, 16, 1);
        for (int i = 0; i < 500; i++) {
            z.run(5000);
        }
        Steps.offer(z, 1, 5);
        check.due("ARRIVED at a CLOCK of 2500000", z.run(33 + 16), 1);
        check.due("packet(0, 5)", z.packet(0, 5), 2500000 + 48);
    }

    private void runAnswers() {
        Tested x = new Tested();
        check.due("run(5000) without a PACKET", x.run(5000), 0);
        Steps.offer(x, 0, 1);
        Steps.offer(x, 1, 1);
        Steps.offer(x, 1, 8);
        check.due("run(3)", x.run(3), 0);
        check.due("run(2)", x.run(2), 2);
        check.due("run(5000)", x.run(5000), 1);
        check.due("run(5000): each counts once", x.run(5000), 0);
        Tested y = Steps.full();
        check.due("run(5000) of 250", y.run(5000), 250);
    }

    private void runRefused() {
        Tested x = new Tested();
        x.offer(0);
        for (int bad : new int[] {0, 5001, -1, -5000, MIN, MAX}) {
            check.dueIllegalArgument("run(" + bad + ")", () -> x.run(bad));
        }
        check.due("count(0)", x.count(0), 0);
        check.due("look(0, 6)", x.look(0, 6), 1);
        check.due("run(5000)", x.run(5000), 1);
    }

    private void takeEarliest() {
        Tested x = new Tested();
        Steps.offer(x, 1, 5);
        Steps.offer(x, 0, 6);
        Steps.offer(x, 1, 60);
        x.run(40);
        Steps.offer(x, 1, 9);
        x.run(1);
        int[][] due = {{1, 0, 5}, {1, 2, 60}, {0, 1, 6}};
        for (int[] d : due) {
            check.due("take(" + d[0] + ")", x.take(d[0]), d[1]);
            check.due("its bytes", Steps.answered(x, d[2]), d[2]);
            check.due("no byte more", x.answer(d[2]), -1);
        }
        check.due("take(1) of one that has not ARRIVED", x.take(1), -1);
        x.run(20);
        check.due("take(1) when it has", x.take(1), 3);
        check.due("its bytes", Steps.answered(x, 9), 9);
        x.offer(2);
        x.run(20);
        check.due("take(2) of no byte", x.take(2), 4);
        check.due("an empty ANSWER", x.answer(0), -1);
    }

    private void isTaken() {
        Tested x = new Tested();
        x.offer(2);
        x.offer(2);
        x.run(20);
        check.dueText("taken at first", Steps.ofPackets(x, 7, 2), "0 0");
        check.due("take(2)", x.take(2), 0);
        check.dueText("taken", Steps.ofPackets(x, 7, 2), "1 0");
        check.due("not taken", x.look(2, 9), 1);
        check.due("take(2)", x.take(2), 1);
        check.dueText("taken", Steps.ofPackets(x, 7, 2), "1 1");
        check.due("not taken", x.look(2, 9), 0);
        check.due("ARRIVED all the same", x.look(2, 8), 2);
    }

    private void takeNone() {
        Tested x = new Tested();
        check.due("take(0) without a PACKET", x.take(0), -1);
        check.due("the ANSWER stays empty", x.answer(0), -1);
        Steps.offer(x, 0, 7);
        check.due("take(0) when it waits", x.take(0), -1);
        x.run(4);
        check.due("take(0) when it is put together", x.take(0), -1);
        x.run(1);
        check.due("take(1) of another CHANNEL", x.take(1), -1);
        check.due("the ANSWER stays empty", x.answer(0), -1);
        check.due("take(0)", x.take(0), 0);
        check.due("take(0), when all are taken", x.take(0), -1);
        check.due("the ANSWER stays", Steps.answered(x, 7), 7);
        Steps.offer(x, 0, 3);
        check.due("take(0) of a new one that waits", x.take(0), -1);
        x.run(20);
        check.due("the ANSWER stays when one ARRIVED", Steps.answered(x, 7), 7);
    }

    private void takeOfNoChannel() {
        for (int channels : new int[] {1, 4, 8}) {
            Tested x = Steps.linked(channels, 1, 1, 1);
            Steps.offer(x, channels - 1, 2);
            x.run(9);
            for (int bad : new int[] {-1, channels, channels + 1, MIN, MAX}) {
                check.dueIllegalArgument("take(" + bad + ")", () -> x.take(bad));
            }
            check.due("answer(0)", x.answer(0), -1);
            check.due("take of the last CHANNEL", x.take(channels - 1), 0);
            check.dueIllegalArgument("take(-1)", () -> x.take(-1));
            check.due("the ANSWER stays", Steps.answered(x, 2), 2);
        }
    }

    private void answerBytes() {
        for (int from = 0; from < 256; from += 32) {
            Tested x = new Tested();
            for (int i = 0; i < 32; i++) {
                x.feed(1, from + i, 0);
            }
            x.offer(0);
            x.run(40);
            x.take(0);
            for (int i = 0; i < 32; i++) {
                check.due("answer(" + i + ")", x.answer(i), from + i);
            }
        }
        Tested y = new Tested();
        Steps.offer(y, 0, 60);
        y.run(50);
        y.take(0);
        Steps.offer(y, 0, 16);
        y.run(50);
        Steps.feed(y, 60);
        check.due("feed, offer and run leave the ANSWER", Steps.answered(y, 60), 60);
    }

    private void answerNone() {
        Tested x = new Tested();
        for (int i : new int[] {-1, 0, 1, 59, 60, MIN, MAX}) {
            check.due("answer(" + i + ") of an empty ANSWER", x.answer(i), -1);
        }
        Steps.offer(x, 0, 60);
        x.run(50);
        x.take(0);
        check.due("answer(59) of 60", x.answer(59), Steps.byteAt(59, 60));
        for (int i : new int[] {-1, 60, 61, MIN, MAX}) {
            check.due("answer(" + i + ") of 60", x.answer(i), -1);
        }
        Steps.offer(x, 0, 2);
        x.run(50);
        x.take(0);
        check.due("answer(1) of 2", x.answer(1), Steps.byteAt(1, 2));
        check.due("answer(2) of 2", x.answer(2), -1);
        check.due("answer(59) of 2", x.answer(59), -1);
    }
}
