import java.util.Arrays;

/**
 * A link from a sender to a receiver: packets cut into flits, several channels on one wire with a
 * delay, a buffer for each channel at its end, credits that come back with a delay of their own,
 * and packets put together again.
 */
public final class CreditWire {
    public static final int NONE = -1;

    private static final int MOST_CHANNELS = 8;
    private static final int MOST_DELAY = 16;
    private static final int MOST_DEPTH = 16;
    private static final int MOST_WEIGHT = 15;
    private static final int MOST_PACKETS = 250;
    private static final int MOST_BYTES = 60;
    private static final int MOST_FED = 16;
    private static final int MOST_ROWS = 32;
    private static final int MOST_CYCLES = 5000;
    private static final int FLIT_BYTES = 4;

    // A delay is at most 16, so what is under way has room in 16 slots, that of CYCLE c in c & 15.
    private static final int SLOTS = 16;
    private static final int SLOT_BITS = SLOTS - 1;

    private static final int TURNS = 0;
    private static final int LEAST = 1;
    private static final int WEIGHTS = 2;
    private static final int WHOLE = 3;

    private static final int ALL_CHANNELS = -1;

    private final byte[] tape = new byte[MOST_BYTES];
    private int tapeLength = 0;
    private byte[] taken = new byte[0];
    private Link now;

    public CreditWire() {
        now = new Link(4, 3, 2, 4);
    }

    public void link(int channels, int wire, int back, int depth) throws IllegalArgumentException {
        if (!isWithin(channels, MOST_CHANNELS)) {
            throw new IllegalArgumentException("channels are 1 to 8");
        }
        if (!isWithin(wire, MOST_DELAY) || !isWithin(back, MOST_DELAY)) {
            throw new IllegalArgumentException("wire and back are 1 to 16");
        }
        if (!isWithin(depth, MOST_DEPTH)) {
            throw new IllegalArgumentException("depth is 1 to 16");
        }
        now = new Link(channels, wire, back, depth);
    }

    public int depth(int v, int n) throws IllegalArgumentException, IllegalStateException {
        Channel channel = now.channelAt(v);
        if (channel == null || !isWithin(n, MOST_DEPTH)) {
            throw new IllegalArgumentException("no such channel, or depth is not 1 to 16");
        }
        if (now.clock != 0) {
            throw new IllegalStateException("the clock is not 0");
        }
        int before = channel.depth;
        channel.depth = n;
        // Nothing was sent at CLOCK 0, so all CREDITS are still at the sender.
        channel.credits = n;
        return before;
    }

    public int weight(int v, int n) throws IllegalArgumentException {
        Channel channel = now.channelAt(v);
        if (channel == null || !isWithin(n, MOST_WEIGHT)) {
            throw new IllegalArgumentException("no such channel, or weight is not 1 to 15");
        }
        int before = channel.weight;
        channel.weight = n;
        return before;
    }

    public int arbiter(int kind) throws IllegalArgumentException {
        if (kind < TURNS || kind > WHOLE) {
            throw new IllegalArgumentException("an arbiter is 0 to 3");
        }
        int before = now.arbiter;
        now.arbiter = kind;
        return before;
    }

    public int mask(int bits) throws UnsupportedOperationException {
        if (!now.addRow(bits)) {
            throw new UnsupportedOperationException("there are 32 rows");
        }
        return now.rows;
    }

    public int free() {
        int before = now.rows;
        now.rows = 0;
        return before;
    }

    public int feed(int n, long a, long b)
            throws IllegalArgumentException, UnsupportedOperationException {
        if (!isWithin(n, MOST_FED)) {
            throw new IllegalArgumentException("1 to 16 bytes are fed");
        }
        if (tapeLength + n > MOST_BYTES) {
            throw new UnsupportedOperationException("the tape has at most 60 bytes");
        }
        for (int i = 0; i < n; i++) {
            long eight = i < 8 ? a : b;
            putOnTape((byte) (eight >>> (8 * (i & 7))));
        }
        return tapeLength;
    }

    public int offer(int v) throws IllegalArgumentException, UnsupportedOperationException {
        int length = tapeLength;
        tapeLength = 0;
        Channel channel = now.channelAt(v);
        if (channel == null) {
            throw new IllegalArgumentException("no such channel");
        }
        if (now.packetCount >= MOST_PACKETS) {
            throw new UnsupportedOperationException("there are 250 packets");
        }
        return now.addPacket(channel, Arrays.copyOf(tape, length));
    }

    public int run(int n) throws IllegalArgumentException {
        if (!isWithin(n, MOST_CYCLES)) {
            throw new IllegalArgumentException("1 to 5000 cycles are run");
        }
        int arrived = 0;
        for (int i = 0; i < n; i++) {
            arrived += now.passCycle();
        }
        return arrived;
    }

    public int take(int v) throws IllegalArgumentException {
        Channel channel = now.channelAt(v);
        if (channel == null) {
            throw new IllegalArgumentException("no such channel");
        }
        Packet packet = now.earliestToTake(channel);
        if (packet == null) {
            return NONE;
        }
        packet.isTaken = true;
        channel.packetsTaken++;
        // The bytes of a PACKET never change, so they need no copy.
        taken = packet.bytes;
        return packet.number;
    }

    public int answer(int i) {
        return i >= 0 && i < taken.length ? taken[i] & 255 : NONE;
    }

    public int look(int v, int what) {
        Channel channel = now.channelAt(v);
        return channel == null ? NONE : channel.property(what);
    }

    public int packet(int k, int what) {
        Packet packet = now.packetAt(k);
        return packet == null ? NONE : packet.property(what);
    }

    public int wire(int i, int what) {
        Flit flit = now.flitThatComesIn(i);
        return flit == null ? NONE : flit.property(what);
    }

    public int buffer(int v, int i, int what) {
        Channel channel = now.channelAt(v);
        if (channel == null) {
            return NONE;
        }
        Flit flit = channel.buffer.flitAt(i);
        return flit == null ? NONE : flit.property(what);
    }

    public int back(int v, int i) {
        Channel channel = now.channelAt(v);
        if (channel == null || i < 0 || i >= SLOTS) {
            return 0;
        }
        return channel.returning[(now.clock + i) & SLOT_BITS];
    }

    public int count(int what) {
        return what == 7 ? tapeLength : now.property(what);
    }

    private static boolean isWithin(int n, int most) {
        return n >= 1 && n <= most;
    }

    private void putOnTape(byte one) {
        if (tapeLength >= 0 && tapeLength < tape.length) {
            tape[tapeLength] = one;
            tapeLength++;
        }
    }

    /** All that a call of link makes anew, so that nothing of the LINK before can stay in it. */
    private static final class Link {
        final int wire;
        final int back;
        final Channel[] channels;
        final Flit[] onWire = new Flit[SLOTS];
        final Packet[] packets = new Packet[MOST_PACKETS];
        final int[] masks = new int[MOST_ROWS];
        int rows = 0;
        int packetCount = 0;
        int clock = 0;
        int arbiter = TURNS;
        int lastSender = NONE;
        int sentInRow = 0;
        int cyclesStalled = 0;
        int flitsTooMany = 0;
        int packetsLate = 0;
        // The last CYCLE with a row of MASKS or another ARBITER than TURNS.
        int lastDisturbed = NONE;

        Link(int channelCount, int wire, int back, int depth) {
            this.wire = wire;
            this.back = back;
            channels = new Channel[channelCount];
            for (int v = 0; v < channels.length; v++) {
                channels[v] = new Channel(v, depth);
            }
        }

        Channel channelAt(int v) {
            return v >= 0 && v < channels.length ? channels[v] : null;
        }

        Packet packetAt(int k) {
            return k >= 0 && k < packetCount && k < packets.length ? packets[k] : null;
        }

        Flit flitThatComesIn(int i) {
            return i >= 0 && i < SLOTS ? onWire[(clock + i) & SLOT_BITS] : null;
        }

        boolean addRow(int bits) {
            if (rows < 0 || rows >= masks.length) {
                return false;
            }
            masks[rows] = bits;
            rows++;
            return true;
        }

        int addPacket(Channel channel, byte[] bytes) {
            int k = packetCount;
            if (k < 0 || k >= packets.length) {
                return NONE;
            }
            Packet packet = new Packet(k, channel, bytes, clock);
            for (int i = 0; i < packet.flits; i++) {
                channel.waiting.add(new Flit(packet, i));
            }
            packet.latest = clock + wire + channel.depth
                    + channel.waiting.size * (wire + back + channels.length);
            packets[k] = packet;
            packetCount++;
            return k;
        }

        Packet earliestToTake(Channel channel) {
            // The PACKETS of a CHANNEL arrive in the order of their numbers.
            for (int k = 0; k < packetCount; k++) {
                Packet packet = packetAt(k);
                if (packet != null && packet.channel == channel && packet.canBeTaken()) {
                    return packet;
                }
            }
            return null;
        }

        int passCycle() {
            if (rows > 0 || arbiter != TURNS) {
                lastDisturbed = clock;
            }
            for (Channel channel : channels) {
                channel.getCreditsBack(clock);
            }
            landFlit();
            int arrived = drainBuffers();
            sendFlit();
            clock++;
            return arrived;
        }

        private void landFlit() {
            int slot = clock & SLOT_BITS;
            Flit flit = onWire[slot];
            if (flit == null) {
                return;
            }
            onWire[slot] = null;
            Channel channel = flit.packet.channel;
            if (channel.buffer.size >= channel.depth) {
                flitsTooMany++;
            }
            channel.land(flit);
        }

        private int drainBuffers() {
            int mask = maskNow();
            int arrived = 0;
            for (Channel channel : channels) {
                if (((mask >>> channel.number) & 1) != 0) {
                    Packet packet = channel.drain(clock, back);
                    if (packet != null) {
                        noteArrived(packet);
                        arrived++;
                    }
                }
            }
            return arrived;
        }

        private int maskNow() {
            if (rows <= 0 || rows > masks.length) {
                return ALL_CHANNELS;
            }
            return masks[Math.floorMod(clock, rows)];
        }

        private void noteArrived(Packet packet) {
            packet.arrived = clock;
            if (clock > packet.latest && lastDisturbed < packet.offered) {
                packetsLate++;
            }
        }

        private void sendFlit() {
            boolean goesOn = arbiter == WEIGHTS && lastMayGoOn();
            Channel channel = channelAt(goesOn ? lastSender : chooseChannel());
            Flit flit = channel == null ? null : channel.send();
            if (channel == null || flit == null) {
                noteStalled();
                return;
            }
            if (flit.number == 0) {
                flit.packet.started = clock;
            }
            onWire[(clock + wire) & SLOT_BITS] = flit;
            boolean beginsRow = channel.number != lastSender || (arbiter == WEIGHTS && !goesOn);
            sentInRow = beginsRow ? 1 : sentInRow + 1;
            lastSender = channel.number;
        }

        private boolean lastMayGoOn() {
            Channel last = channelAt(lastSender);
            return last != null && last.isAble() && sentInRow < last.weight;
        }

        private int chooseChannel() {
            if (arbiter == LEAST) {
                return firstAbleFrom(0);
            }
            Channel begun = arbiter == WHOLE ? firstInsidePacket() : null;
            if (begun != null) {
                return begun.isAble() ? begun.number : NONE;
            }
            return firstAbleFrom(lastSender + 1);
        }

        private Channel firstInsidePacket() {
            for (Channel channel : channels) {
                if (channel.isInsidePacket()) {
                    return channel;
                }
            }
            return null;
        }

        private int firstAbleFrom(int start) {
            for (int i = 0; i < channels.length; i++) {
                int v = start + i;
                Channel channel = channelAt(v < channels.length ? v : v - channels.length);
                if (channel != null && channel.isAble()) {
                    return channel.number;
                }
            }
            return NONE;
        }

        private void noteStalled() {
            for (Channel channel : channels) {
                if (channel.waiting.size > 0) {
                    cyclesStalled++;
                    return;
                }
            }
        }

        int property(int what) {
            switch (what) {
                case 0: return clock;
                case 1: return channels.length;
                case 2: return wire;
                case 3: return back;
                case 4: return arbiter;
                case 5: return rows;
                case 6: return packetCount;
                case 8: return lastSender;
                case 9: return sentInRow;
                case 10: return cyclesStalled;
                case 11: return flitsTooMany;
                case 12: return packetsLate;
                default: return NONE;
            }
        }
    }

    /** Both ends of a CHANNEL: what waits and the CREDITS here, the BUFFER and what ARRIVED there. */
    private static final class Channel {
        final int number;
        final FlitQueue waiting = new FlitQueue();
        final FlitQueue buffer = new FlitQueue();
        final int[] returning = new int[SLOTS];
        int depth;
        int weight = 1;
        int credits;
        int flitsOnWire = 0;
        int flitsSent = 0;
        int packetsArrived = 0;
        int packetsTaken = 0;
        int bytesTogether = 0;
        int mostInBuffer = 0;

        Channel(int number, int depth) {
            this.number = number;
            this.depth = depth;
            credits = depth;
        }

        boolean isAble() {
            return waiting.size > 0 && credits > 0;
        }

        boolean isInsidePacket() {
            return waiting.first != null && waiting.first.number > 0;
        }

        void getCreditsBack(int clock) {
            int slot = clock & SLOT_BITS;
            credits += returning[slot];
            returning[slot] = 0;
        }

        Flit send() {
            Flit flit = waiting.removeFirst();
            if (flit != null) {
                credits--;
                flitsSent++;
                flitsOnWire++;
            }
            return flit;
        }

        void land(Flit flit) {
            flitsOnWire--;
            buffer.add(flit);
            mostInBuffer = Math.max(mostInBuffer, buffer.size);
        }

        /** Answers the PACKET that ARRIVED by this, or null. */
        Packet drain(int clock, int back) {
            Flit flit = buffer.removeFirst();
            if (flit == null) {
                return null;
            }
            returning[(clock + back) & SLOT_BITS]++;
            if (!flit.isLast()) {
                bytesTogether += flit.size();
                return null;
            }
            bytesTogether = 0;
            packetsArrived++;
            return flit.packet;
        }

        private int creditsReturning() {
            int sum = 0;
            for (int some : returning) {
                sum += some;
            }
            return sum;
        }

        int property(int what) {
            switch (what) {
                case 0: return depth;
                case 1: return weight;
                case 2: return credits;
                case 3: return creditsReturning();
                case 4: return flitsOnWire;
                case 5: return buffer.size;
                case 6: return waiting.size;
                case 7: return flitsSent;
                case 8: return packetsArrived;
                case 9: return packetsArrived - packetsTaken;
                case 10: return bytesTogether;
                case 11: return mostInBuffer;
                default: return NONE;
            }
        }
    }

    private static final class Packet {
        final int number;
        final Channel channel;
        final byte[] bytes;
        final int flits;
        final int offered;
        int started = NONE;
        int arrived = NONE;
        int latest = 0;
        boolean isTaken = false;

        Packet(int number, Channel channel, byte[] bytes, int offered) {
            this.number = number;
            this.channel = channel;
            this.bytes = bytes;
            this.offered = offered;
            flits = bytes.length == 0 ? 1 : (bytes.length + FLIT_BYTES - 1) / FLIT_BYTES;
        }

        boolean canBeTaken() {
            return arrived != NONE && !isTaken;
        }

        int property(int what) {
            switch (what) {
                case 0: return channel.number;
                case 1: return bytes.length;
                case 2: return flits;
                case 3: return offered;
                case 4: return started;
                case 5: return arrived;
                case 6: return latest;
                case 7: return isTaken ? 1 : 0;
                default: return NONE;
            }
        }
    }

    private static final class Flit {
        final Packet packet;
        final int number;
        // A FLIT stands in one queue at a time, so it can be a link of the queue's chain itself.
        Flit next = null;

        Flit(Packet packet, int number) {
            this.packet = packet;
            this.number = number;
        }

        boolean isLast() {
            return number == packet.flits - 1;
        }

        int size() {
            return isLast() ? packet.bytes.length - FLIT_BYTES * number : FLIT_BYTES;
        }

        int property(int what) {
            switch (what) {
                case 0: return packet.channel.number;
                case 1: return packet.number;
                case 2: return number;
                case 3: return size();
                default: return NONE;
            }
        }
    }

    private static final class FlitQueue {
        Flit first = null;
        Flit last = null;
        int size = 0;

        void add(Flit flit) {
            if (last == null) {
                first = flit;
            } else {
                last.next = flit;
            }
            last = flit;
            size++;
        }

        Flit removeFirst() {
            Flit flit = first;
            if (flit == null) {
                return null;
            }
            first = flit.next;
            flit.next = null;
            if (first == null) {
                last = null;
            }
            size--;
            return flit;
        }

        Flit flitAt(int i) {
            if (i < 0 || i >= size) {
                return null;
            }
            Flit flit = first;
            for (int k = 0; k < i && flit != null; k++) {
                flit = flit.next;
            }
            return flit;
        }
    }
}
