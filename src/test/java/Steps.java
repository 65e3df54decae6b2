/** Steps that many tests take, and views as texts. */
final class Steps {
    static final int MIN = Integer.MIN_VALUE;
    static final int MAX = Integer.MAX_VALUE;

    private Steps() {
    }

    static Tested linked(int channels, int wire, int back, int depth) {
        Tested x = new Tested();
        x.link(channels, wire, back, depth);
        return x;
    }

    /** The byte at place i of every packet of that length that offer makes: no two places alike. */
    static int byteAt(int i, int length) {
        return (i * 4 + length * 67 + 131) & 255;
    }

    static void feed(Tested x, int length) {
        for (int from = 0; from < length; from += 16) {
            long[] both = new long[2];
            int n = Math.min(16, length - from);
            for (int i = 0; i < n; i++) {
                both[i / 8] |= (long) byteAt(from + i, length) << (8 * (i % 8));
            }
            x.feed(n, both[0], both[1]);
        }
    }

    static int offer(Tested x, int v, int length) {
        feed(x, length);
        return x.offer(v);
    }

    /** Runs so many CYCLES: the CHANNEL that sent in each, '-' for none. */
    static String senders(Tested x, int cycles) {
        StringBuilder text = new StringBuilder();
        int[] before = lookAtAll(x, 7);
        for (int i = 0; i < cycles; i++) {
            x.run(1);
            int[] behind = lookAtAll(x, 7);
            String who = "";
            for (int v = 0; v < before.length; v++) {
                who += String.valueOf(v).repeat(behind[v] - before[v]);
            }
            text.append(i == 0 ? "" : " ").append(who.isEmpty() ? "-" : who);
            before = behind;
        }
        return text.toString();
    }

    private static int[] lookAtAll(Tested x, int what) {
        int[] all = new int[x.aside().count(1)];
        for (int v = 0; v < all.length; v++) {
            all[v] = x.aside().look(v, what);
        }
        return all;
    }

    /** What look(v, what) answers of all CHANNELS. */
    static String ofAll(Tested x, int what) {
        StringBuilder text = new StringBuilder();
        for (int one : lookAtAll(x, what)) {
            text.append(text.length() == 0 ? "" : " ").append(one);
        }
        return text.toString();
    }

    /** Runs so many CYCLES: what count(what) answers behind each. */
    static String counts(Tested x, int what, int cycles) {
        StringBuilder text = new StringBuilder();
        for (int i = 0; i < cycles; i++) {
            x.run(1);
            text.append(i == 0 ? "" : " ").append(x.aside().count(what));
        }
        return text.toString();
    }

    /** Runs so many CYCLES: what look(v, what) answers behind each. */
    static String looks(Tested x, int v, int what, int cycles) {
        StringBuilder text = new StringBuilder();
        for (int i = 0; i < cycles; i++) {
            x.run(1);
            text.append(i == 0 ? "" : " ").append(x.aside().look(v, what));
        }
        return text.toString();
    }

    /** What packet(k, what) answers of the first PACKETS. */
    static String ofPackets(Tested x, int what, int packets) {
        StringBuilder text = new StringBuilder();
        for (int k = 0; k < packets; k++) {
            text.append(k == 0 ? "" : " ").append(x.aside().packet(k, what));
        }
        return text.toString();
    }

    /** The CREDITS of a CHANNEL that come in the next CYCLE, the one behind that, and so on. */
    static String backs(Tested x, int v, int cycles) {
        StringBuilder text = new StringBuilder();
        for (int i = 0; i < cycles; i++) {
            text.append(i == 0 ? "" : " ").append(x.aside().back(v, i));
        }
        return text.toString();
    }

    /** CHANNEL, PACKET, number and bytes of a FLIT. */
    static String onWire(Tested x, int i) {
        return x.aside().wire(i, 0) + " " + x.aside().wire(i, 1) + " " + x.aside().wire(i, 2) + " "
                + x.aside().wire(i, 3);
    }

    static String buffered(Tested x, int v, int i) {
        return x.aside().buffer(v, i, 0) + " " + x.aside().buffer(v, i, 1) + " "
                + x.aside().buffer(v, i, 2) + " " + x.aside().buffer(v, i, 3);
    }

    /** How many bytes of the ANSWER are those that offer gave a packet of that length. */
    static int answered(Tested x, int length) {
        int right = 0;
        while (right < length && x.aside().answer(right) == byteAt(right, length)) {
            right++;
        }
        return right;
    }

    /** An object in which everything is under way: packets, masks, credits, a tape, an ANSWER. */
    static Tested busy() {
        Tested x = linked(3, 2, 3, 2);
        x.arbiter(2);
        x.weight(1, 4);
        x.mask(-1);
        x.mask(5);
        offer(x, 0, 1);
        x.run(8);
        x.take(0);
        for (int v = 0; v < 3; v++) {
            offer(x, v, 16);
        }
        x.run(5);
        feed(x, 3);
        return x;
    }

    /** A LINK of two CHANNELS with 250 empty PACKETS. */
    static Tested full() {
        Tested x = linked(2, 1, 1, 2);
        for (int k = 0; k < 250; k++) {
            x.offer(k & 1);
        }
        return x;
    }
}
