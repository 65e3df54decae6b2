import java.util.ArrayList;
import java.util.List;

/**
 * The document once more, written another way than the program: it keeps only the history (at
 * which CYCLE each FLIT was sent and drained) and works out every view from that.
 */
final class Model {
    static final class Pack {
        int number;
        int channel;
        int[] bytes;
        int offered;
        int latest;
        boolean disturbed;
        boolean taken;
        final List<Bit> flits = new ArrayList<>();

        int arrived() {
            return flits.get(flits.size() - 1).drainedAt;
        }
    }

    static final class Bit {
        Pack pack;
        int number;
        int size;
        int sentAt = -1;
        int drainedAt = -1;
    }

    int channels;
    int wire;
    int back;
    int clock;
    int arbiter;
    int[] depth;
    int[] weight;
    int[] most;
    final List<Integer> masks = new ArrayList<>();
    final List<Pack> packs = new ArrayList<>();
    final List<List<Bit>> ofChannel = new ArrayList<>();
    final List<Integer> senders = new ArrayList<>();
    int rowBegan;
    int stalled;
    int tooMany;
    int late;
    final List<Integer> tape = new ArrayList<>();
    int[] answer = {};

    Model() {
        link(4, 3, 2, 4);
    }

    void link(int channels, int wire, int back, int depth) {
        if (out(channels, 1, 8) || out(wire, 1, 16) || out(back, 1, 16) || out(depth, 1, 16)) {
            throw new IllegalArgumentException();
        }
        this.channels = channels;
        this.wire = wire;
        this.back = back;
        this.depth = new int[channels];
        weight = new int[channels];
        most = new int[channels];
        ofChannel.clear();
        for (int v = 0; v < channels; v++) {
            this.depth[v] = depth;
            weight[v] = 1;
            ofChannel.add(new ArrayList<>());
        }
        clock = 0;
        arbiter = 0;
        masks.clear();
        packs.clear();
        senders.clear();
        rowBegan = 0;
        stalled = 0;
        tooMany = 0;
        late = 0;
    }

    int depth(int v, int n) {
        if (out(v, 0, channels - 1) || out(n, 1, 16)) {
            throw new IllegalArgumentException();
        }
        if (clock != 0) {
            throw new IllegalStateException();
        }
        int was = depth[v];
        depth[v] = n;
        return was;
    }

    int weight(int v, int n) {
        if (out(v, 0, channels - 1) || out(n, 1, 15)) {
            throw new IllegalArgumentException();
        }
        int was = weight[v];
        weight[v] = n;
        return was;
    }

    int arbiter(int kind) {
        if (out(kind, 0, 3)) {
            throw new IllegalArgumentException();
        }
        int was = arbiter;
        arbiter = kind;
        return was;
    }

    int mask(int bits) {
        if (masks.size() == 32) {
            throw new UnsupportedOperationException();
        }
        masks.add(bits);
        return masks.size();
    }

    int free() {
        int was = masks.size();
        masks.clear();
        return was;
    }

    int feed(int n, long a, long b) {
        if (out(n, 1, 16)) {
            throw new IllegalArgumentException();
        }
        if (tape.size() + n > 60) {
            throw new UnsupportedOperationException();
        }
        long[] both = {a, b};
        for (int i = 0; i < n; i++) {
            tape.add((int) (both[i / 8] & 255));
            both[i / 8] >>= 8;
        }
        return tape.size();
    }

    int offer(int v) {
        List<Integer> bytes = new ArrayList<>(tape);
        tape.clear();
        if (out(v, 0, channels - 1)) {
            throw new IllegalArgumentException();
        }
        if (packs.size() == 250) {
            throw new UnsupportedOperationException();
        }
        Pack pack = new Pack();
        pack.number = packs.size();
        pack.channel = v;
        pack.offered = clock;
        pack.bytes = bytes.stream().mapToInt(Integer::intValue).toArray();
        int from = 0;
        do {
            Bit bit = new Bit();
            bit.pack = pack;
            bit.number = pack.flits.size();
            bit.size = Math.min(4, bytes.size() - from);
            pack.flits.add(bit);
            ofChannel.get(v).add(bit);
            from += 4;
        } while (from < bytes.size());
        pack.latest = clock + wire + depth[v] + waiting(v).size() * (wire + back + channels);
        packs.add(pack);
        return pack.number;
    }

    int run(int n) {
        if (out(n, 1, 5000)) {
            throw new IllegalArgumentException();
        }
        int arrived = 0;
        for (int i = 0; i < n; i++) {
            arrived += cycle();
        }
        return arrived;
    }

    private int cycle() {
        int arrived = 0;
        if (!masks.isEmpty() || arbiter != 0) {
            packs.forEach(p -> p.disturbed = true);
        }
        for (int v = 0; v < channels; v++) {
            List<Bit> buffer = inBuffer(v, clock);
            most[v] = Math.max(most[v], buffer.size());
            if (buffer.size() > depth[v]) {
                tooMany++;
            }
            boolean open = masks.isEmpty() || (masks.get(clock % masks.size()) & (1 << v)) != 0;
            if (open && !buffer.isEmpty()) {
                Bit bit = buffer.get(0);
                bit.drainedAt = clock;
                if (bit.number == bit.pack.flits.size() - 1) {
                    arrived++;
                    if (clock > bit.pack.latest && !bit.pack.disturbed) {
                        late++;
                    }
                }
            }
        }
        boolean waits = false;
        for (int v = 0; v < channels; v++) {
            waits |= !waiting(v).isEmpty();
        }
        int v = choose();
        if (v >= 0) {
            waiting(v).get(0).sentAt = clock;
            senders.add(v);
        } else if (waits) {
            stalled++;
        }
        clock++;
        return arrived;
    }

    /** Also moves rowBegan, the place in the list of senders at which the row begins. */
    private int choose() {
        int last = last();
        if (arbiter == 2 && last >= 0 && able(last) && senders.size() - rowBegan < weight[last]) {
            return last;
        }
        int v = -1;
        if (arbiter == 1) {
            for (int k = channels - 1; k >= 0; k--) {
                v = able(k) ? k : v;
            }
        } else {
            int begun = arbiter == 3 ? begun() : -1;
            if (begun >= 0) {
                v = able(begun) ? begun : -1;
            } else {
                for (int step = channels; step >= 1; step--) {
                    int k = (last + step) % channels;
                    v = able(k) ? k : v;
                }
            }
        }
        if (v >= 0 && (v != last || arbiter == 2)) {
            rowBegan = senders.size();
        }
        return v;
    }

    private int begun() {
        int least = -1;
        for (Pack pack : packs) {
            boolean sent = pack.flits.get(0).sentAt >= 0;
            boolean waits = pack.flits.get(pack.flits.size() - 1).sentAt < 0;
            if (sent && waits && (least < 0 || pack.channel < least)) {
                least = pack.channel;
            }
        }
        return least;
    }

    private boolean able(int v) {
        return !waiting(v).isEmpty() && credits(v, clock) > 0;
    }

    private int last() {
        return senders.isEmpty() ? -1 : senders.get(senders.size() - 1);
    }

    private List<Bit> waiting(int v) {
        List<Bit> some = new ArrayList<>();
        for (Bit bit : ofChannel.get(v)) {
            if (bit.sentAt < 0) {
                some.add(bit);
            }
        }
        return some;
    }

    /** What is in the BUFFER behind (b) of a CYCLE, or behind the whole of one that has ended. */
    private List<Bit> inBuffer(int v, int cycle) {
        List<Bit> some = new ArrayList<>();
        for (Bit bit : ofChannel.get(v)) {
            if (bit.sentAt >= 0 && bit.sentAt + wire <= cycle && bit.drainedAt < 0) {
                some.add(bit);
            }
        }
        return some;
    }

    private int credits(int v, int cycle) {
        int credits = depth[v];
        for (Bit bit : ofChannel.get(v)) {
            credits -= bit.sentAt >= 0 ? 1 : 0;
            credits += bit.drainedAt >= 0 && bit.drainedAt + back <= cycle ? 1 : 0;
        }
        return credits;
    }

    int take(int v) {
        if (out(v, 0, channels - 1)) {
            throw new IllegalArgumentException();
        }
        Pack best = null;
        for (Pack pack : packs) {
            if (pack.channel == v && pack.arrived() >= 0 && !pack.taken
                    && (best == null || pack.arrived() < best.arrived())) {
                best = pack;
            }
        }
        if (best == null) {
            return -1;
        }
        best.taken = true;
        answer = best.bytes;
        return best.number;
    }

    int answer(int i) {
        return out(i, 0, answer.length - 1) ? -1 : answer[i];
    }

    int look(int v, int what) {
        if (out(v, 0, channels - 1) || out(what, 0, 11)) {
            return -1;
        }
        int sent = 0;
        int together = 0;
        int onWire = 0;
        int returning = 0;
        for (Bit bit : ofChannel.get(v)) {
            sent += bit.sentAt >= 0 ? 1 : 0;
            onWire += bit.sentAt >= 0 && bit.sentAt + wire >= clock ? 1 : 0;
            returning += bit.drainedAt >= 0 && bit.drainedAt + back >= clock ? 1 : 0;
            together += bit.drainedAt >= 0 && bit.pack.arrived() < 0 ? bit.size : 0;
        }
        int arrived = 0;
        int taken = 0;
        for (Pack pack : packs) {
            arrived += pack.channel == v && pack.arrived() >= 0 ? 1 : 0;
            taken += pack.channel == v && pack.taken ? 1 : 0;
        }
        int[] all = {depth[v], weight[v], credits(v, clock - 1), returning, onWire,
            inBuffer(v, clock - 1).size(), waiting(v).size(), sent, arrived, arrived - taken,
            together, most[v]};
        return all[what];
    }

    int packet(int k, int what) {
        if (out(k, 0, packs.size() - 1) || out(what, 0, 7)) {
            return -1;
        }
        Pack pack = packs.get(k);
        int[] all = {pack.channel, pack.bytes.length, pack.flits.size(), pack.offered,
            pack.flits.get(0).sentAt, pack.arrived(), pack.latest, pack.taken ? 1 : 0};
        return all[what];
    }

    int wire(int i, int what) {
        for (Pack pack : packs) {
            for (Bit bit : pack.flits) {
                if (bit.sentAt >= 0 && i >= 0 && (long) bit.sentAt + wire == (long) clock + i) {
                    return told(bit, what);
                }
            }
        }
        return -1;
    }

    int buffer(int v, int i, int what) {
        if (out(v, 0, channels - 1)) {
            return -1;
        }
        List<Bit> buffer = inBuffer(v, clock - 1);
        return out(i, 0, buffer.size() - 1) ? -1 : told(buffer.get(i), what);
    }

    private int told(Bit bit, int what) {
        int[] all = {bit.pack.channel, bit.pack.number, bit.number, bit.size};
        return out(what, 0, 3) ? -1 : all[what];
    }

    int back(int v, int i) {
        int some = 0;
        if (!out(v, 0, channels - 1) && i >= 0) {
            for (Bit bit : ofChannel.get(v)) {
                boolean comes = (long) bit.drainedAt + back == (long) clock + i;
                some += bit.drainedAt >= 0 && comes ? 1 : 0;
            }
        }
        return some;
    }

    int count(int what) {
        int[] all = {clock, channels, wire, back, arbiter, masks.size(), packs.size(),
            tape.size(), last(), senders.size() - rowBegan, stalled, tooMany, late};
        return out(what, 0, 12) ? -1 : all[what];
    }

    private static boolean out(int n, int least, int most) {
        return n < least || n > most;
    }
}
