/** All that can be seen of an object, as a text, so that two states can be held side by side. */
final class Views {
    private Views() {
    }

    static String all(CreditWire x) {
        StringBuilder text = new StringBuilder();
        for (int what = -1; what <= 13; what++) {
            put(text, "count", what, -1, x.count(what));
        }
        for (int v = -1; v <= 8; v++) {
            for (int what = -1; what <= 12; what++) {
                put(text, "look", v, what, x.look(v, what));
            }
            for (int i = -1; i <= 17; i++) {
                put(text, "back", v, i, x.back(v, i));
                for (int what = -1; what <= 4; what++) {
                    put(text, "buffer", v, i * 10 + what, x.buffer(v, i, what));
                }
            }
        }
        for (int i = -1; i <= 17; i++) {
            for (int what = -1; what <= 4; what++) {
                put(text, "wire", i, what, x.wire(i, what));
            }
        }
        for (int k = -1; k <= x.count(6); k++) {
            for (int what = -1; what <= 8; what++) {
                put(text, "packet", k, what, x.packet(k, what));
            }
        }
        for (int i = -1; i <= 60; i++) {
            put(text, "answer", i, -1, x.answer(i));
        }
        return text.toString();
    }

    static String tapeAside(CreditWire x) {
        return all(x).replaceAll("count 7 -1: -?\\d+\n", "");
    }

    private static void put(StringBuilder text, String name, int a, int b, int answer) {
        text.append(name).append(' ').append(a).append(' ').append(b).append(": ")
                .append(answer).append('\n');
    }
}
