import java.util.ArrayList;
import java.util.List;
import java.util.function.Supplier;

/** "Terms" but for the CYCLE: how many there may be of all, and the sentences below. */
final class TermsEdges {
    private final Check check;
    private final Sentences s;

    TermsEdges(Check check, Sentences s) {
        this.check = check;
        this.s = s;
    }

    void term1() {
        s.test("A LINK has CHANNELS (1 to 8, from 0 on),", this::channels1To8);
        s.test("WIRE and BACK (1 to 16, CYCLES),", this::wireAndBack1To16);
        s.test("and of each CHANNEL a DEPTH (1 to 16),", this::depth1To16);
        s.test("a WEIGHT (1 to 15),", this::weight1To15);
        s.test("CREDITS (DEPTH at first) at the sender", this::creditsAreDepthAtFirst);
        s.test("and a BUFFER at the receiver.", this::aBufferOfEachChannel);
        s.test("The CLOCK is 0 at first.", this::clockIs0AtFirst);
        s.test("PACKETS are numbered from 0 on as they are offered,", this::packetsFrom0On);
        s.test("at most 250;", this::atMost250Packets);
        s.test("a PACKET has a CHANNEL,", this::packetHasAChannel);
        s.test("0 to 60 bytes,", this::packetOf0To60Bytes);
        s.test("and FLITS: as many as it has fours of bytes begun,", this::flitsOfFoursBegun);
        s.test("one if it has no byte.", this::oneFlitWithoutAByte);
        s.test("A FLIT has its PACKET, its number there (from 0 on),", this::flitsAreNumbered);
        s.test("and its bytes (4, the last one of a PACKET 0 to 4).", this::bytesOfFlits);
        s.test("A PACKET's FLITS wait at the sender, behind those of earlier ones of its CHANNEL.",
                this::flitsWaitBehindEarlierOnes);
    }

    void belowTheTerms() {
        s.test("A call that throws changes nothing but the tape, as said;", () -> {
            refusedCallsChangeNothing("new", Tested::new);
            refusedCallsChangeNothing("busy", Steps::busy);
            refusedCallsChangeNothing("full", TermsEdges::allIsFull);
            refusedCallsChangeNothing("with a long tape", TermsEdges::withALongTape);
            refusedOfferChangesTheTapeAlone("new", Tested::new, 4);
            refusedOfferChangesTheTapeAlone("full, CHANNEL 2", Steps::full, 2);
            refusedOfferChangesTheTapeAlone("full, CHANNEL 0", Steps::full, 0);
        });
        s.test("of two exceptions the one named first is thrown.", this::firstNamedIsThrown);
        s.test("All memory is the link's own.", this::memoryIsItsOwn);
        s.test("The constants: There is none.",
                () -> check.due("NONE", CreditWire.NONE, -1));
    }

    private void channels1To8() {
        for (int channels = 1; channels <= 8; channels++) {
            Tested x = Steps.linked(channels, 1, 1, 1);
            for (int v = 0; v < channels; v++) {
                x.feed(1, 100 + v, 0);
                check.due("offer(" + v + ") of " + channels, x.offer(v), v);
            }
            check.due("run(20) of " + channels, x.run(20), channels);
            for (int v = 0; v < channels; v++) {
                check.due("take(" + v + ") of " + channels, x.take(v), v);
                check.due("answer(0)", x.answer(0), 100 + v);
            }
            check.due("look(-1, 0) of " + channels, x.look(-1, 0), -1);
            check.due("look(" + channels + ", 0)", x.look(channels, 0), -1);
        }
        check.dueIllegalArgument("link(0, 1, 1, 1)", () -> Steps.linked(0, 1, 1, 1));
        check.dueIllegalArgument("link(9, 1, 1, 1)", () -> Steps.linked(9, 1, 1, 1));
    }

    private void wireAndBack1To16() {
        for (int wire = 1; wire <= 16; wire++) {
            for (int back = 1; back <= 16; back++) {
                Tested x = Steps.linked(1, wire, back, 1);
                Steps.offer(x, 0, 1);
                check.due("run up to WIRE " + wire, x.run(wire), 0);
                check.due("run of CYCLE " + wire, x.run(1), 1);
                check.due("CREDITS in CYCLE " + wire, x.look(0, 2), 0);
                x.run(back);
                check.due("CREDITS in CYCLE " + (wire + back), x.look(0, 2), 1);
            }
        }
        for (int bad : new int[] {0, 17}) {
            check.dueIllegalArgument("WIRE " + bad, () -> Steps.linked(1, bad, 1, 1));
            check.dueIllegalArgument("BACK " + bad, () -> Steps.linked(1, 1, bad, 1));
        }
    }

    private void depth1To16() {
        Tested x = Steps.linked(8, 1, 1, 16);
        int[] depths = {1, 16, 2, 15, 8, 3, 9, 4};
        x.mask(0);
        for (int v = 0; v < 8; v++) {
            x.depth(v, depths[v]);
            Steps.offer(x, v, 60);
            Steps.offer(x, v, 60);
        }
        x.run(200);
        check.dueText("DEPTHS", Steps.ofAll(x, 0), "1 16 2 15 8 3 9 4");
        check.dueText("FLITS sent to closed BUFFERS", Steps.ofAll(x, 7), "1 16 2 15 8 3 9 4");
        check.dueText("FLITS in BUFFERS", Steps.ofAll(x, 5), "1 16 2 15 8 3 9 4");
        for (int bad : new int[] {0, 17}) {
            check.dueIllegalArgument("link, DEPTH " + bad, () -> Steps.linked(1, 1, 1, bad));
            check.dueIllegalArgument("depth(0, " + bad + ")", () -> new Tested().depth(0, bad));
        }
    }

    private void weight1To15() {
        for (int weight = 1; weight <= 15; weight++) {
            Tested x = Steps.linked(2, 1, 1, 16);
            x.arbiter(2);
            x.weight(0, weight);
            Steps.offer(x, 0, 60);
            Steps.offer(x, 0, 60);
            Steps.offer(x, 1, 4);
            check.dueText("WEIGHT " + weight, Steps.senders(x, weight + 2),
                    "0 ".repeat(weight) + "1 0");
        }
        check.dueIllegalArgument("weight(0, 0)", () -> new Tested().weight(0, 0));
        check.dueIllegalArgument("weight(0, 16)", () -> new Tested().weight(0, 16));
    }

    private void creditsAreDepthAtFirst() {
        for (int depth = 1; depth <= 16; depth++) {
            Tested x = Steps.linked(2, 3, 3, depth);
            check.dueText("CREDITS", Steps.ofAll(x, 2), depth + " " + depth);
            x.depth(1, 17 - depth);
            check.dueText("CREDITS behind depth", Steps.ofAll(x, 2), depth + " " + (17 - depth));
        }
    }

    private void aBufferOfEachChannel() {
        Tested x = Steps.linked(8, 1, 1, 16);
        x.mask(0);
        for (int k = 0; k < 16; k++) {
            Steps.offer(x, k % 8, 60);
        }
        x.run(200);
        for (int v = 0; v < 8; v++) {
            for (int i = 0; i < 16; i++) {
                String flit = i < 15 ? v + " " + i : v + 8 + " 0";
                check.dueText("buffer(" + v + ", " + i + ")", Steps.buffered(x, v, i),
                        v + " " + flit + " 4");
            }
            check.due("buffer(" + v + ", 16, 0)", x.buffer(v, 16, 0), -1);
        }
    }

    private void clockIs0AtFirst() {
        Tested x = new Tested();
        check.due("count(0) of a new object", x.count(0), 0);
        x.run(5000);
        x.link(1, 1, 1, 1);
        check.due("count(0) of a new link", x.count(0), 0);
        x.offer(0);
        check.due("packet(0, 3) of a new link", x.packet(0, 3), 0);
        check.due("packet(0, 6) of a new link", x.packet(0, 6), 5);
    }

    private void packetsFrom0On() {
        Tested x = Steps.linked(3, 1, 1, 1);
        check.due("the first", x.offer(2), 0);
        check.due("of another CHANNEL", x.offer(0), 1);
        check.dueIllegalArgument("offer(3)", () -> x.offer(3));
        check.due("behind a refused one", x.offer(2), 2);
        x.run(50);
        x.take(2);
        check.due("behind ones that are taken", x.offer(1), 3);
        check.dueText("CHANNELS by number", Steps.ofPackets(x, 0, 4), "2 0 2 1");
        check.due("packet(-1, 0)", x.packet(-1, 0), -1);
        check.due("packet(4, 0)", x.packet(4, 0), -1);
    }

    private void atMost250Packets() {
        Tested x = Steps.full();
        check.due("count(6)", x.count(6), 250);
        check.dueUnsupported("the 251st", () -> x.offer(0));
        check.due("count(6) behind it", x.count(6), 250);
        check.due("packet(249, 0)", x.packet(249, 0), 1);
        check.due("packet(250, 0)", x.packet(250, 0), -1);
        check.due("all 250 arrive", x.run(5000), 250);
        for (int i = 0; i < 125; i++) {
            check.due("take(1)", x.take(1), 2 * i + 1);
        }
        check.dueUnsupported("the 251st, when many are taken", () -> x.offer(0));
    }

    private void packetHasAChannel() {
        Tested x = Steps.linked(8, 1, 1, 1);
        for (int v = 7; v >= 0; v--) {
            int k = x.offer(v);
            check.due("packet(" + k + ", 0)", x.packet(k, 0), v);
            x.run(3);
            for (int other = 0; other < 8; other++) {
                check.due("take(" + other + ")", x.take(other), other == v ? k : -1);
            }
        }
    }

    private void packetOf0To60Bytes() {
        for (int length = 0; length <= 60; length++) {
            Tested x = Steps.linked(1, 1, 1, 16);
            Steps.offer(x, 0, length);
            check.due("bytes", x.packet(0, 1), length);
            check.due("run(20) of " + length + " bytes", x.run(20), 1);
            check.due("take(0)", x.take(0), 0);
            check.due("bytes that came", Steps.answered(x, length), length);
            check.due("answer(" + length + ")", x.answer(length), -1);
        }
    }

    private void flitsOfFoursBegun() {
        Tested x = Steps.linked(1, 1, 1, 16);
        int waited = 0;
        for (int length = 1; length <= 60; length++) {
            int k = Steps.offer(x, 0, length);
            int due = length / 4 + (length % 4 > 0 ? 1 : 0);
            check.due("FLITS of " + length + " bytes", x.packet(k, 2), due);
            waited += due;
            check.due("FLITS that wait", x.look(0, 6), waited);
        }
        check.due("run(5000)", x.run(5000), 60);
        check.due("FLITS that were sent", x.look(0, 7), waited);
    }

    private void oneFlitWithoutAByte() {
        Tested x = Steps.linked(1, 2, 2, 1);
        check.due("offer of an empty tape", x.offer(0), 0);
        check.due("bytes", x.packet(0, 1), 0);
        check.due("FLITS", x.packet(0, 2), 1);
        check.due("FLITS that wait", x.look(0, 6), 1);
        x.run(1);
        check.dueText("on the wire", Steps.onWire(x, 1), "0 0 0 0");
        check.due("it takes a CREDIT", x.look(0, 2), 0);
        check.due("it comes", x.run(2), 1);
        check.due("ARRIVED", x.packet(0, 5), 2);
        check.due("its CREDIT is on the way", x.look(0, 3), 1);
        check.due("take(0)", x.take(0), 0);
        check.due("answer(0)", x.answer(0), -1);
    }

    private void flitsAreNumbered() {
        Tested x = Steps.linked(1, 1, 1, 16);
        x.mask(0);
        x.offer(0);
        Steps.offer(x, 0, 60);
        x.run(30);
        check.dueText("of an empty PACKET", Steps.buffered(x, 0, 0), "0 0 0 0");
        for (int i = 0; i < 15; i++) {
            check.dueText("FLIT " + i, Steps.buffered(x, 0, i + 1), "0 1 " + i + " 4");
        }
    }

    private void bytesOfFlits() {
        for (int length = 0; length <= 60; length++) {
            Tested x = Steps.linked(1, 1, 1, 16);
            x.mask(0);
            Steps.offer(x, 0, length);
            x.run(20);
            int left = length;
            for (int i = 0; i == 0 || left > 0; i++) {
                check.due("FLIT " + i + " of " + length + " bytes", x.buffer(0, i, 3),
                        Math.min(4, left));
                left -= 4;
            }
        }
    }

    private void flitsWaitBehindEarlierOnes() {
        Tested x = Steps.linked(2, 1, 1, 16);
        x.mask(0);
        Steps.offer(x, 1, 8);
        Steps.offer(x, 0, 5);
        Steps.offer(x, 1, 0);
        x.run(1);
        Steps.offer(x, 1, 6);
        Steps.offer(x, 0, 1);
        check.dueText("FLITS that wait", Steps.ofAll(x, 6), "2 5");
        x.run(20);
        String[] due0 = {"0 1 0 4", "0 1 1 1", "0 4 0 1", "-1 -1 -1 -1"};
        String[] due1 = {"1 0 0 4", "1 0 1 4", "1 2 0 0", "1 3 0 4", "1 3 1 2", "-1 -1 -1 -1"};
        for (int i = 0; i < due0.length; i++) {
            check.dueText("CHANNEL 0, place " + i, Steps.buffered(x, 0, i), due0[i]);
        }
        for (int i = 0; i < due1.length; i++) {
            check.dueText("CHANNEL 1, place " + i, Steps.buffered(x, 1, i), due1[i]);
        }
    }

    private static Tested allIsFull() {
        Tested x = Steps.full();
        for (int i = 0; i < 32; i++) {
            x.mask(i * 3 + 1);
        }
        Steps.feed(x, 60);
        x.run(1);
        return x;
    }

    private static Tested withALongTape() {
        Tested x = new Tested();
        Steps.feed(x, 50);
        return x;
    }

    /** The twin is spared the refused calls; neither now nor later may the two differ. */
    private void refusedCallsChangeNothing(String name, Supplier<Tested> maker) {
        Tested x = maker.get();
        Tested twin = maker.get();
        String before = Views.all(twin);
        List<Runnable> calls = refusedCalls(x, twin);
        for (int i = 0; i < calls.size(); i++) {
            check.due(name + ", call " + i + " is refused", isRefused(calls.get(i)) ? 1 : 0, 1);
            check.dueText(name + ", views behind call " + i, Views.all(x), before);
        }
        goOnAlike(name, x, twin);
    }

    private void refusedOfferChangesTheTapeAlone(String name, Supplier<Tested> maker, int v) {
        Tested x = maker.get();
        Tested twin = maker.get();
        Steps.feed(x, 60);
        check.due(name + ", offer is refused", isRefused(() -> x.offer(v)) ? 1 : 0, 1);
        check.due(name + ", bytes of the tape", x.count(7), 0);
        check.dueText(name + ", views behind the offer", Views.all(x), Views.all(twin));
        goOnAlike(name, x, twin);
    }

    /** Calls of all that may throw but offer; what is refused by the state, if the twin is in it. */
    private static List<Runnable> refusedCalls(Tested x, Tested twin) {
        List<Runnable> calls = new ArrayList<>();
        calls.add(() -> x.link(0, 1, 1, 1));
        calls.add(() -> x.link(8, 17, 1, 1));
        calls.add(() -> x.link(8, 1, 17, 1));
        calls.add(() -> x.link(8, 1, 1, 17));
        calls.add(() -> x.depth(8, 1));
        calls.add(() -> x.depth(0, 17));
        calls.add(() -> x.weight(8, 2));
        calls.add(() -> x.weight(0, 16));
        calls.add(() -> x.arbiter(4));
        calls.add(() -> x.feed(0, 1, 1));
        calls.add(() -> x.feed(17, 1, 1));
        calls.add(() -> x.run(0));
        calls.add(() -> x.run(5001));
        calls.add(() -> x.take(8));
        calls.add(() -> x.take(-1));
        if (twin.aside().count(0) > 0) {
            calls.add(() -> x.depth(0, 16));
        }
        if (twin.aside().count(5) == 32) {
            calls.add(() -> x.mask(0));
        }
        if (twin.aside().count(7) > 44) {
            calls.add(() -> x.feed(16, 1, 1));
        }
        return calls;
    }

    private static boolean isRefused(Runnable call) {
        try {
            call.run();
            return false;
        } catch (RuntimeException e) {
            return true;
        }
    }

    /** What cannot be seen (rows of MASKS, bytes of the tape) shows as the two are used further. */
    private void goOnAlike(String name, Tested x, Tested twin) {
        int channels = twin.aside().count(1);
        boolean hasRoom = twin.aside().count(6) < 250;
        for (int i = 0; i < 33; i++) {
            for (Tested one : new Tested[] {x, twin}) {
                if (hasRoom && i % 4 == 0) {
                    one.offer(i % channels);
                    one.feed(9, 0x0102030405060708L * i, i);
                }
                one.run(1);
                one.take(i % channels);
            }
            check.dueText(name + ", views " + i + " CYCLES later", Views.all(x), Views.all(twin));
        }
    }

    private void firstNamedIsThrown() {
        Tested x = Steps.full();
        x.run(1);
        Steps.feed(x, 60);
        check.dueIllegalArgument("depth(2, 1) at CLOCK 1", () -> x.depth(2, 1));
        check.dueIllegalArgument("depth(0, 17) at CLOCK 1", () -> x.depth(0, 17));
        check.dueIllegalState("depth(0, 1) at CLOCK 1", () -> x.depth(0, 1));
        check.dueIllegalArgument("feed(0) behind 60 bytes", () -> x.feed(0, 1, 1));
        check.dueIllegalArgument("feed(17) behind 60 bytes", () -> x.feed(17, 1, 1));
        check.dueUnsupported("feed(16) behind 60 bytes", () -> x.feed(16, 1, 1));
        check.dueIllegalArgument("offer(2) behind 250", () -> x.offer(2));
        check.dueIllegalArgument("offer(-1) behind 250", () -> x.offer(-1));
        check.dueUnsupported("offer(1) behind 250", () -> x.offer(1));
    }

    /** The objects themselves, without copies aside: a copy would write into what they share. */
    private void memoryIsItsOwn() {
        CreditWire x = new CreditWire();
        CreditWire y = new CreditWire();
        tapesAreTheirOwn(x, y);
        linksAreTheirOwn(x, y);
        answersAreTheirOwn(x, y);
        new CreditWire();
        check.due("CLOCK behind a third object", x.count(0), 6);
        check.due("PACKETS behind a third object", y.count(6), 1);
        check.due("answer(3) behind a third object", x.answer(3), 4);
    }

    private void tapesAreTheirOwn(CreditWire x, CreditWire y) {
        check.due("x.feed", x.feed(3, 0x030201, 0), 3);
        check.due("y.feed", y.feed(2, 0x0908, 0), 2);
        check.due("x.feed", x.feed(1, 4, 0), 4);
        check.due("x.offer", x.offer(0), 0);
        check.due("y.count(7)", y.count(7), 2);
        check.due("y.count(6)", y.count(6), 0);
    }

    private void linksAreTheirOwn(CreditWire x, CreditWire y) {
        y.link(8, 16, 16, 16);
        y.mask(0);
        y.weight(0, 15);
        y.arbiter(3);
        check.due("CHANNELS of x", x.count(1), 4);
        check.due("WIRE of x", x.count(2), 3);
        check.due("rows of x", x.count(5), 0);
        check.due("WEIGHT of x", x.look(0, 1), 1);
        check.due("ARBITER of x", x.count(4), 0);
        check.due("y.offer", y.offer(0), 0);
        check.due("FLITS of x that wait", x.look(0, 6), 1);
        check.due("x.run(6)", x.run(6), 1);
        check.due("CLOCK of y", y.count(0), 0);
        check.due("FLITS of y that wait", y.look(0, 6), 1);
    }

    private void answersAreTheirOwn(CreditWire x, CreditWire y) {
        check.due("y.take", y.take(0), -1);
        check.due("x.take", x.take(0), 0);
        check.due("y.answer(0)", y.answer(0), -1);
        y.free();
        check.due("y.run(17)", y.run(17), 1);
        check.due("y.take", y.take(0), 0);
        for (int i = 0; i < 4; i++) {
            check.due("x.answer(" + i + ")", x.answer(i), i + 1);
            check.due("y.answer(" + i + ")", y.answer(i), i < 2 ? 8 + i : -1);
        }
    }
}
