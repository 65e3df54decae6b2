import java.util.Random;
import java.util.function.ToIntFunction;

/** "What it is": all of it at once, and the calls that an object is used for. */
final class WholeEdges {
    private static final int MOST = Tested.MOST_CALLS;

    private final Check check;
    private final Sentences s;

    WholeEdges(Check check, Sentences s) {
        this.check = check;
        this.s = s;
    }

    void whatItIs() {
        s.section("What it is");
        s.test("A link from a sender to a receiver: packets cut into flits, several channels on one "
                + "wire with a delay, a buffer for each channel at its end, credits that come back "
                + "with a delay of their own, and packets put together again.", () -> {
            for (int arbiter = 0; arbiter <= 3; arbiter++) {
                nothingIsLost(arbiter, Steps.linked(8, 16, 16, 16));
                nothingIsLost(arbiter, Steps.linked(3, 1, 1, 1));
                nothingIsLost(arbiter, Steps.linked(5, 2, 7, 3));
            }
        });
        s.test("An object is used for at most 512 calls after it has been made;", () -> {
            runs();
            links();
            masks();
            packets();
            views();
        });
        s.test("what later calls answer is free.", this::laterCalls);
        s.endSection();
    }

    /** FLITS and CREDITS are at one place each, and every byte comes through. */
    private void nothingIsLost(int arbiter, Tested x) {
        int channels = x.count(1);
        x.arbiter(arbiter);
        x.mask(0x55);
        x.mask(0xAA);
        x.mask(-1);
        int[] flits = new int[channels];
        int[] lengths = new int[3 * channels];
        for (int k = 0; k < lengths.length; k++) {
            lengths[k] = (k * 23 + 5) % 61;
            flits[k % channels] += Math.max(1, (lengths[k] + 3) / 4);
            Steps.offer(x, k % channels, lengths[k]);
        }
        int arrived = 0;
        for (int t = 0; t < 50; t++) {
            arrived += x.run(t < 49 ? 1 + t : 5000);
            for (int v = 0; v < channels; v++) {
                eachAtOnePlace(x, v, flits[v]);
            }
        }
        check.due("PACKETS that ARRIVED", arrived, lengths.length);
        for (int k = 0; k < lengths.length; k++) {
            check.due("take", x.take(k % channels), k);
            check.due("bytes that came", Steps.answered(x, lengths[k]), lengths[k]);
            check.due("a byte more", x.aside().answer(lengths[k]), -1);
        }
    }

    private void eachAtOnePlace(Tested x, int v, int flits) {
        int wait = x.aside().look(v, 6);
        int sent = x.aside().look(v, 7);
        check.due("FLITS of " + v, wait + sent, flits);
        int credits = x.aside().look(v, 2);
        int onTheirWay = x.aside().look(v, 3);
        int onTheWire = x.aside().look(v, 4);
        int inTheBuffer = x.aside().look(v, 5);
        check.due("CREDITS of " + v, credits + onTheirWay + onTheWire + inTheBuffer,
                x.aside().look(v, 0));
        int back = 0;
        int wire = 0;
        int buffer = 0;
        for (int i = 0; i < 16; i++) {
            back += x.aside().back(v, i);
            wire += x.aside().wire(i, 0) == v ? 1 : 0;
            buffer += x.aside().buffer(v, i, 0) == v ? 1 : 0;
        }
        check.due("CREDITS of " + v + " by back", back, onTheirWay);
        check.due("FLITS of " + v + " by wire", wire, onTheWire);
        check.due("FLITS of " + v + " by buffer", buffer, inTheBuffer);
    }

    private void runs() {
        Tested x = new Tested();
        for (int i = 1; i < MOST; i++) {
            check.due("run", x.run(5000), 0);
        }
        check.due("CLOCK, as the last call", x.count(0), 511 * 5000);
    }

    private void links() {
        Tested x = new Tested();
        for (int i = 1; i < MOST; i++) {
            x.link(1 + i % 8, 1 + i % 16, 16 - i % 16, 1 + i % 7);
        }
        check.due("CHANNELS, as the last call", x.count(1), 1 + 511 % 8);
    }

    private void masks() {
        Tested x = new Tested();
        for (int i = 1; i < MOST; i++) {
            if (i % 33 == 0) {
                check.due("free", x.free(), 32);
            } else {
                check.due("mask", x.mask(i), i % 33);
            }
        }
        check.due("mask, as the last call", x.mask(0), MOST % 33);
    }

    /** All 250 PACKETS; the last one is taken by the last call. */
    private void packets() {
        Tested x = Steps.linked(1, 1, 1, 16);
        for (int k = 0; k < 250; k++) {
            check.due("offer", x.offer(0), k);
        }
        check.due("run", x.run(5000), 250);
        for (int k = 0; k < 249; k++) {
            check.due("take", x.take(0), k);
        }
        for (int i = 501; i < MOST - 1; i++) {
            check.dueUnsupported("offer beyond 250", () -> x.offer(0));
        }
        check.due("calls left", x.callsLeft(), 1);
        check.due("take, as the last call", x.take(0), 249);
    }

    private void views() {
        same(x -> x.look(3, 0), 4);
        same(x -> x.packet(0, 0), -1);
        same(x -> x.wire(0, 0), -1);
        same(x -> x.buffer(0, 0, 0), -1);
        same(x -> x.back(0, 0), 0);
        same(x -> x.answer(0), -1);
        same(x -> x.take(0), -1);
        same(x -> x.arbiter(0), 0);
        same(x -> x.weight(0, 1), 1);
        same(x -> x.depth(0, 4), 4);
    }

    private void same(ToIntFunction<Tested> call, int due) {
        Tested x = new Tested();
        for (int i = 1; i <= MOST; i++) {
            check.due("call " + i, call.applyAsInt(x), due);
        }
    }

    /** Whatever it is, it is an answer: the calls end, and throw nothing that is not named. */
    private void laterCalls() {
        CreditWire x = new CreditWire();
        for (int i = 1; i <= MOST; i++) {
            x.run(5000);
        }
        AnyCallTest.play(check, x, 5000, new Random(512));
    }
}
