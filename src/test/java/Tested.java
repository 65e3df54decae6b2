import java.util.ArrayList;
import java.util.List;
import java.util.function.Consumer;
import java.util.function.ToIntFunction;

/**
 * An object under test, held to the 512 calls that the document promises anything of. It keeps
 * what it was called with, so that views can be asked of a copy (aside) that has calls left.
 */
final class Tested {
    static final int MOST_CALLS = 512;

    private final CreditWire x = new CreditWire();
    private final List<Consumer<CreditWire>> calls = new ArrayList<>();
    private CreditWire copy = null;
    private int callsOfCopy = 0;

    /** A copy for one view. */
    CreditWire aside() {
        if (copy == null || callsOfCopy >= MOST_CALLS) {
            copy = again();
            callsOfCopy = calls.size();
        }
        callsOfCopy++;
        refuseBeyondMost(callsOfCopy);
        return copy;
    }

    private CreditWire again() {
        CreditWire other = new CreditWire();
        for (Consumer<CreditWire> call : calls) {
            try {
                call.accept(other);
            } catch (RuntimeException e) {
                // It was refused the first time too, and the test has looked at that.
                continue;
            }
        }
        return other;
    }

    private void keep(Consumer<CreditWire> call) {
        calls.add(call);
        copy = null;
        refuseBeyondMost(calls.size());
    }

    private static void refuseBeyondMost(int made) {
        if (made > MOST_CALLS) {
            throw new AssertionError("a test goes beyond the calls of which anything is promised");
        }
    }

    private int ask(ToIntFunction<CreditWire> call) {
        keep(call::applyAsInt);
        return call.applyAsInt(x);
    }

    int callsLeft() {
        return MOST_CALLS - calls.size();
    }

    void link(int channels, int wire, int back, int depth) {
        keep(w -> w.link(channels, wire, back, depth));
        x.link(channels, wire, back, depth);
    }

    int depth(int v, int n) {
        return ask(w -> w.depth(v, n));
    }

    int weight(int v, int n) {
        return ask(w -> w.weight(v, n));
    }

    int arbiter(int kind) {
        return ask(w -> w.arbiter(kind));
    }

    int mask(int bits) {
        return ask(w -> w.mask(bits));
    }

    int free() {
        return ask(CreditWire::free);
    }

    int feed(int n, long a, long b) {
        return ask(w -> w.feed(n, a, b));
    }

    int offer(int v) {
        return ask(w -> w.offer(v));
    }

    int run(int n) {
        return ask(w -> w.run(n));
    }

    int take(int v) {
        return ask(w -> w.take(v));
    }

    int answer(int i) {
        return ask(w -> w.answer(i));
    }

    int look(int v, int what) {
        return ask(w -> w.look(v, what));
    }

    int packet(int k, int what) {
        return ask(w -> w.packet(k, what));
    }

    int wire(int i, int what) {
        return ask(w -> w.wire(i, what));
    }

    int buffer(int v, int i, int what) {
        return ask(w -> w.buffer(v, i, what));
    }

    int back(int v, int i) {
        return ask(w -> w.back(v, i));
    }

    int count(int what) {
        return ask(w -> w.count(what));
    }
}
