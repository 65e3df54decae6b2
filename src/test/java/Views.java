/** All that can be seen of an object, as a text, so that two states can be held side by side. */
final class Views {
    private Views() {
    }

    static String all(Tested x) {
        return ofLink(x) + ofPackets(x) + ofTape(x) + ofAnswer(x);
    }

    static String tapeAside(Tested x) {
        return ofLink(x) + ofPackets(x) + ofAnswer(x);
    }

    /** What a new link makes anew. */
    static String ofLinkAndPackets(Tested x) {
        return ofLink(x) + ofPackets(x);
    }

    private static String ofLink(Tested x) {
        StringBuilder text = new StringBuilder();
        for (int what = -1; what <= 13; what++) {
            if (what != 7) {
                put(text, "count", what, -1, x.aside().count(what));
            }
        }
        for (int v = -1; v <= 8; v++) {
            for (int what = -1; what <= 12; what++) {
                put(text, "look", v, what, x.aside().look(v, what));
            }
            for (int i = -1; i <= 17; i++) {
                put(text, "back", v, i, x.aside().back(v, i));
                for (int what = -1; what <= 4; what++) {
                    put(text, "buffer", v, i * 10 + what, x.aside().buffer(v, i, what));
                }
            }
        }
        for (int i = -1; i <= 17; i++) {
            for (int what = -1; what <= 4; what++) {
                put(text, "wire", i, what, x.aside().wire(i, what));
            }
        }
        return text.toString();
    }

    private static String ofPackets(Tested x) {
        StringBuilder text = new StringBuilder();
        int packets = x.aside().count(6);
        for (int k = -1; k <= packets; k++) {
            for (int what = -1; what <= 8; what++) {
                put(text, "packet", k, what, x.aside().packet(k, what));
            }
        }
        return text.toString();
    }

    private static String ofTape(Tested x) {
        return "bytes of the tape: " + x.aside().count(7) + "\n";
    }

    private static String ofAnswer(Tested x) {
        StringBuilder text = new StringBuilder();
        for (int i = -1; i <= 60; i++) {
            put(text, "answer", i, -1, x.aside().answer(i));
        }
        return text.toString();
    }

    private static void put(StringBuilder text, String name, int a, int b, int answer) {
        text.append(name).append(' ').append(a).append(' ').append(b).append(": ")
                .append(answer).append('\n');
    }
}
