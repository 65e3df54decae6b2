/** Promises 8, 9, 11, 12, 14: feed, offer, take, answer, packet. */
public final class PacketTest {
    private static final Check check = new Check("PacketTest");
    private static final int MIN = Integer.MIN_VALUE;
    private static final int MAX = Integer.MAX_VALUE;

    public static void main(String[] args) {
        promise8Feed();
        promise8FeedRefused();
        promise9Offer();
        promise9OfferEmptiesTheTape();
        promise9At250();
        promise11Take();
        promise12Answer();
        promise14Packet();
        promise14FlitsOfAllLengths();
        promise14Latest();
        check.end();
    }

    private static void promise8Feed() {
        CreditWire x = new CreditWire();
        check.due("feed(1)", x.feed(1, 0xFFFFFFFFFFFFFF80L, -1), 1);
        check.due("feed(8)", x.feed(8, 0x8877665544332211L, -1), 9);
        check.due("feed(9)", x.feed(9, 0x0807060504030201L, 0xEEEEEEEEEEEEEEFFL), 18);
        check.due("feed(16)", x.feed(16, 0xA8A7A6A5A4A3A2A1L, 0xB8B7B6B5B4B3B2B1L), 34);
        check.due("count(7)", x.count(7), 34);
        x.offer(0);
        x.run(40);
        x.take(0);
        int[] due = {0x80, 0x11, 0x22, 0x33, 0x44, 0x55, 0x66, 0x77, 0x88,
            1, 2, 3, 4, 5, 6, 7, 8, 0xFF,
            0xA1, 0xA2, 0xA3, 0xA4, 0xA5, 0xA6, 0xA7, 0xA8,
            0xB1, 0xB2, 0xB3, 0xB4, 0xB5, 0xB6, 0xB7, 0xB8, -1};
        for (int i = 0; i < due.length; i++) {
            check.due("answer(" + i + ")", x.answer(i), due[i]);
        }
    }

    private static void promise8FeedRefused() {
        CreditWire x = new CreditWire();
        for (int bad : new int[] {0, 17, -1, MIN, MAX}) {
            check.dueIllegalArgument("feed(" + bad + ")", () -> x.feed(bad, 1, 1));
        }
        check.due("count(7)", x.count(7), 0);
        x.feed(16, 1, 1);
        x.feed(16, 1, 1);
        x.feed(16, 1, 1);
        check.dueUnsupported("feed(13) behind 48", () -> x.feed(13, 1, 1));
        check.due("count(7)", x.count(7), 48);
        check.due("feed(12) behind 48", x.feed(12, 1, 1), 60);
        check.dueUnsupported("feed(1) behind 60", () -> x.feed(1, 1, 1));
        check.dueIllegalArgument("feed(17) behind 60", () -> x.feed(17, 1, 1));
        check.dueIllegalArgument("feed(0) behind 60", () -> x.feed(0, 1, 1));
        check.dueIllegalArgument("feed(MAX) behind 60", () -> x.feed(MAX, 1, 1));
        check.due("count(7)", x.count(7), 60);
    }

    private static void promise9Offer() {
        CreditWire x = new CreditWire();
        check.due("offer(3) of an empty tape", x.offer(3), 0);
        x.feed(6, 1, 1);
        check.due("offer(3)", x.offer(3), 1);
        x.feed(1, 1, 1);
        check.due("offer(0)", x.offer(0), 2);
        check.due("count(6)", x.count(6), 3);
        check.due("count(7)", x.count(7), 0);
        check.due("look(3, 6)", x.look(3, 6), 3);
        check.due("look(0, 6)", x.look(0, 6), 1);
        check.due("look(1, 6)", x.look(1, 6), 0);
    }

    private static void promise9OfferEmptiesTheTape() {
        CreditWire x = new CreditWire();
        for (int bad : new int[] {-1, 4, 8, MIN, MAX}) {
            x.feed(5, 1, 1);
            String before = Views.tapeAside(x);
            check.dueIllegalArgument("offer(" + bad + ")", () -> x.offer(bad));
            check.due("count(7) behind a refused offer", x.count(7), 0);
            check.dueText("state behind a refused offer", Views.tapeAside(x), before);
        }
        check.due("offer(0)", x.offer(0), 0);
        check.due("packet(0, 1): the tape was empty", x.packet(0, 1), 0);
    }

    private static void promise9At250() {
        CreditWire x = new CreditWire();
        x.link(2, 1, 1, 1);
        for (int k = 0; k < 250; k++) {
            check.due("offer", x.offer(k & 1), k);
        }
        x.feed(7, 1, 1);
        String before = Views.tapeAside(x);
        check.dueUnsupported("offer(0), the 251st", () -> x.offer(0));
        check.due("count(7) behind the 251st", x.count(7), 0);
        x.feed(7, 1, 1);
        check.dueIllegalArgument("offer(2), the 251st", () -> x.offer(2));
        check.due("count(7) behind the 251st", x.count(7), 0);
        check.dueText("state behind the 251st", Views.tapeAside(x), before);
        check.due("packet(249, 0)", x.packet(249, 0), 1);
        check.due("packet(250, 0)", x.packet(250, 0), -1);
        check.due("run(5000)", x.run(5000), 250);
        check.dueUnsupported("offer(0), when all ARRIVED", () -> x.offer(0));
        x.link(2, 1, 1, 1);
        check.due("offer(1) behind a new link", x.offer(1), 0);
    }

    private static void promise11Take() {
        CreditWire x = new CreditWire();
        for (int bad : new int[] {-1, 4, MIN, MAX}) {
            check.dueIllegalArgument("take(" + bad + ")", () -> x.take(bad));
        }
        check.due("take(0) without a PACKET", x.take(0), -1);
        offer(x, 1, 0x21);
        offer(x, 0, 0x22);
        offer(x, 1, 0x23);
        check.due("take(1) ahead of arriving", x.take(1), -1);
        x.run(20);
        check.due("take(1)", x.take(1), 0);
        check.due("answer(0)", x.answer(0), 0x21);
        check.due("look(1, 9)", x.look(1, 9), 1);
        check.due("look(1, 8)", x.look(1, 8), 2);
        check.due("packet(0, 7)", x.packet(0, 7), 1);
        check.due("packet(2, 7)", x.packet(2, 7), 0);
        check.due("take(1)", x.take(1), 2);
        check.due("answer(0)", x.answer(0), 0x23);
        check.due("take(1), when all are taken", x.take(1), -1);
        check.due("the ANSWER stays", x.answer(0), 0x23);
        check.dueIllegalArgument("take(4)", () -> x.take(4));
        check.due("the ANSWER stays", x.answer(0), 0x23);
        check.due("take(0)", x.take(0), 1);
        check.due("answer(0)", x.answer(0), 0x22);
        x.offer(2);
        x.run(20);
        check.due("take(2) of no byte", x.take(2), 3);
        check.due("answer(0) of no byte", x.answer(0), -1);
    }

    private static void promise12Answer() {
        CreditWire x = new CreditWire();
        for (int i = 0; i < 4; i++) {
            x.feed(15, 0xF7F6F5F4F3F2F1F0L + i, 0x00FEFDFCFBFAF9F8L);
        }
        x.offer(0);
        x.run(100);
        check.due("answer(0) ahead of take", x.answer(0), -1);
        x.take(0);
        for (int i = 0; i < 60; i++) {
            int due = i % 15 == 0 ? 0xF0 + i / 15 : 0xF0 + i % 15;
            check.due("answer(" + i + ")", x.answer(i), due);
        }
        for (int i : new int[] {-1, 60, 61, MIN, MAX}) {
            check.due("answer(" + i + ")", x.answer(i), -1);
        }
        x.feed(2, 0x1234, 0);
        check.due("feed leaves the ANSWER", x.answer(0), 0xF0);
        x.offer(0);
        x.run(100);
        x.take(0);
        check.due("answer(1) of the shorter one", x.answer(1), 0x12);
        check.due("answer(2) of the shorter one", x.answer(2), -1);
    }

    private static void promise14Packet() {
        CreditWire x = new CreditWire();
        x.link(2, 2, 3, 2);
        x.run(5);
        x.feed(9, 0, 0);
        x.offer(1);
        int[] due = {1, 9, 3, 5, -1, -1, 5 + 2 + 2 + 3 * (2 + 3 + 2), 0};
        for (int what = 0; what < due.length; what++) {
            check.due("packet(0, " + what + ")", x.packet(0, what), due[what]);
        }
        x.run(1);
        check.due("packet(0, 4) when its first FLIT was sent", x.packet(0, 4), 5);
        // Sent at 5 and 6; the CREDIT given back at 7 comes at 10; sent at 10, ARRIVED at 12.
        x.run(6);
        check.due("packet(0, 5) ahead of arriving", x.packet(0, 5), -1);
        x.run(1);
        check.due("packet(0, 5)", x.packet(0, 5), 12);
        check.due("packet(0, 4)", x.packet(0, 4), 5);
        x.take(1);
        check.due("packet(0, 7)", x.packet(0, 7), 1);
        for (int what : new int[] {-1, 8, MIN, MAX}) {
            check.due("packet(0, " + what + ")", x.packet(0, what), -1);
        }
        for (int k : new int[] {-1, 1, 249, 250, MIN, MAX}) {
            check.due("packet(" + k + ", 3)", x.packet(k, 3), -1);
        }
    }

    private static void promise14FlitsOfAllLengths() {
        CreditWire x = new CreditWire();
        for (int bytes = 0; bytes <= 60; bytes++) {
            for (int left = bytes; left > 0; left -= 16) {
                x.feed(Math.min(left, 16), 0, 0);
            }
            int k = x.offer(0);
            check.due("bytes", x.packet(k, 1), bytes);
            check.due("FLITS of " + bytes + " bytes", x.packet(k, 2),
                    bytes == 0 ? 1 : bytes / 4 + (bytes % 4 == 0 ? 0 : 1));
        }
    }

    private static void promise14Latest() {
        CreditWire x = new CreditWire();
        x.link(5, 7, 4, 3);
        x.feed(16, 0, 0);
        x.offer(2);
        x.feed(5, 0, 0);
        x.offer(2);
        x.offer(1);
        check.due("LATEST of the first", x.packet(0, 6), 7 + 3 + 4 * 16);
        check.due("LATEST of the second", x.packet(1, 6), 7 + 3 + 6 * 16);
        check.due("LATEST of another CHANNEL", x.packet(2, 6), 7 + 3 + 16);
        x.depth(2, 9);
        check.due("LATEST keeps the DEPTH of then", x.packet(0, 6), 7 + 3 + 4 * 16);
        x.offer(2);
        check.due("LATEST by the new DEPTH", x.packet(3, 6), 7 + 9 + 7 * 16);
        x.run(3);
        check.due("FLITS of 2 that wait", x.look(2, 6), 5);
        x.offer(2);
        check.due("LATEST counts only those that wait", x.packet(4, 6), 3 + 7 + 9 + 6 * 16);
    }

    private static void offer(CreditWire x, int v, int one) {
        x.feed(1, one, 0);
        x.offer(v);
    }
}
