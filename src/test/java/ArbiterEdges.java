/** "Terms" 2, (d) of a CYCLE: which CHANNEL sends a FLIT, by each ARBITER. */
final class ArbiterEdges {
    private static final int TURNS = 0;
    private static final int LEAST = 1;
    private static final int WEIGHTS = 2;
    private static final int WHOLE = 3;

    private final Check check;
    private final Sentences s;

    ArbiterEdges(Check check, Sentences s) {
        this.check = check;
        this.s = s;
    }

    void sending() {
        s.test("(d) One FLIT is sent, if a CHANNEL is ABLE:", this::oneFlitIsSent);
        s.test("one that has a FLIT that waits, and CREDITS;", this::able);
        s.test("the CHANNEL's first FLIT that waits goes, and its CREDITS are one less.",
                this::firstGoes);
        s.test("Which CHANNEL, tells the ARBITER: 0 TURNS: the first that is ABLE, gone over from "
                + "the one behind the one that sent last on,", this::turnsFromBehindTheLast);
        s.test("round to that", this::turnsRound);
        s.test("(from 0 on ahead of any).", this::turnsAheadOfAny);
        s.test("1 LEAST: the first that is ABLE, from 0 on.", this::least);
        s.test("2 WEIGHTS: the one that sent last, if it is ABLE", this::weightsIfAble);
        s.test("and has sent fewer FLITS in a row than its WEIGHT,", this::weightsFewerThanWeight);
        s.test("else as by TURNS", this::weightsElseTurns);
        s.test("(a row begins whenever another CHANNEL than before sends, by any ARBITER,",
                this::rowBeginsWithAnother);
        s.test("and by WEIGHTS also when one is chosen as by TURNS).", this::rowBeginsByTurns);
        s.test("3 WHOLE: the CHANNEL", this::whole);
        s.test("(of several the least)", this::wholeLeastOfSeveral);
        s.test("of a PACKET of which a FLIT was sent and another one waits, if there is one:",
                this::wholeOnlyBegunOnes);
        s.test("it alone, if it is ABLE, else none;", this::wholeElseNone);
        s.test("without one as by TURNS.", this::wholeElseTurns);
    }

    /** A LINK with all the room that there may be, so that CREDITS never run out. */
    private static Tested wide(int channels, int arbiter) {
        Tested x = Steps.linked(channels, 1, 1, 16);
        x.arbiter(arbiter);
        return x;
    }

    private static void offerToAll(Tested x, int channels, int length) {
        for (int v = 0; v < channels; v++) {
            Steps.offer(x, v, length);
        }
    }

    private void oneFlitIsSent() {
        for (int arbiter = TURNS; arbiter <= WHOLE; arbiter++) {
            Tested x = wide(8, arbiter);
            offerToAll(x, 8, 4);
            for (int t = 1; t <= 10; t++) {
                x.run(1);
                int sent = 0;
                for (int v = 0; v < 8; v++) {
                    sent += x.aside().look(v, 7);
                }
                check.due("FLITS sent in " + t + " CYCLES", sent, Math.min(t, 8));
                check.due("a FLIT on the wire", x.wire(0, 0) < 0 ? 0 : 1, t <= 8 ? 1 : 0);
            }
        }
    }

    private void able() {
        for (int arbiter = TURNS; arbiter <= WHOLE; arbiter++) {
            Tested x = Steps.linked(3, 1, 1, 1);
            x.mask(0);
            x.depth(2, 2);
            x.arbiter(arbiter);
            check.dueText("CREDITS without a FLIT", Steps.senders(x, 2), "- -");
            x.offer(1);
            x.offer(1);
            check.dueText("with one CREDIT", Steps.senders(x, 3), "1 - -");
            x.offer(2);
            x.offer(2);
            x.offer(2);
            check.dueText("with two CREDITS", Steps.senders(x, 4), "2 2 - -");
            check.dueText("FLITS that wait", Steps.ofAll(x, 6), "0 1 1");
            check.dueText("CREDITS", Steps.ofAll(x, 2), "1 0 0");
        }
    }

    private void firstGoes() {
        Tested x = Steps.linked(2, 4, 1, 5);
        Steps.offer(x, 1, 6);
        Steps.offer(x, 1, 3);
        String[] flits = {"1 0 0 4", "1 0 1 2", "1 1 0 3", "-1 -1 -1 -1"};
        int[] credits = {4, 3, 2, 2};
        int[] waiting = {2, 1, 0, 0};
        for (int t = 0; t < 4; t++) {
            x.run(1);
            check.dueText("sent in CYCLE " + t, Steps.onWire(x, 3), flits[t]);
            check.dueText("CREDITS", Steps.ofAll(x, 2), "5 " + credits[t]);
            check.dueText("FLITS that wait", Steps.ofAll(x, 6), "0 " + waiting[t]);
        }
    }

    /** CHANNEL v has sent last, and nothing waits. */
    private static Tested lastWas(int v, int channels, int arbiter) {
        Tested x = wide(channels, arbiter);
        x.offer(v);
        x.run(1);
        return x;
    }

    private void turnsFromBehindTheLast() {
        for (int v = 0; v < 7; v++) {
            Tested x = lastWas(v, 8, TURNS);
            offerToAll(x, 8, 4);
            check.dueText("all ABLE, behind " + v, Steps.senders(x, 1), "" + (v + 1));
            Tested y = lastWas(v, 8, TURNS);
            y.offer(0);
            y.offer(v);
            y.offer(7);
            check.dueText("0, " + v + ", 7 ABLE, behind " + v, Steps.senders(y, 1), "7");
        }
        Tested z = lastWas(1, 4, TURNS);
        z.run(100);
        offerToAll(z, 4, 4);
        check.dueText("behind CYCLES in which none was sent", Steps.senders(z, 1), "2");
        Tested w = Steps.linked(3, 3, 3, 16);
        w.depth(1, 1);
        Steps.offer(w, 0, 16);
        Steps.offer(w, 1, 16);
        check.dueText("1 with one CREDIT", Steps.senders(w, 14), "0 1 0 0 0 - - 1 - - - - - 1");
    }

    private void turnsRound() {
        for (int channels = 1; channels <= 8; channels++) {
            for (int v = 0; v < channels; v++) {
                Tested x = lastWas(v, channels, TURNS);
                offerToAll(x, channels, 4);
                String due = "";
                for (int i = 1; i <= channels; i++) {
                    due += (v + i) % channels + " ";
                }
                check.dueText("a round of " + channels + " behind " + v,
                        Steps.senders(x, channels + 1), due + "-");
                Tested y = lastWas(v, channels, TURNS);
                Steps.offer(y, v, 12);
                check.dueText(v + " alone", Steps.senders(y, 4), v + " " + v + " " + v + " -");
            }
        }
    }

    private void turnsAheadOfAny() {
        for (int v = 0; v < 8; v++) {
            Tested x = wide(8, TURNS);
            for (int other = 7; other >= v; other--) {
                x.offer(other);
            }
            check.dueText(v + " to 7 ABLE", Steps.senders(x, 1), "" + v);
        }
        Tested y = lastWas(2, 4, TURNS);
        y.link(4, 1, 1, 1);
        offerToAll(y, 4, 4);
        check.dueText("a new link", Steps.senders(y, 1), "0");
    }

    private void least() {
        Tested x = wide(8, LEAST);
        for (int v = 7; v >= 0; v--) {
            Steps.offer(x, v, v % 2 == 0 ? 16 : 4);
        }
        check.dueText("from 0 on", Steps.senders(x, 21),
                "0 0 0 0 1 2 2 2 2 3 4 4 4 4 5 6 6 6 6 7 -");
        x.offer(7);
        x.offer(3);
        check.dueText("behind 7", Steps.senders(x, 1), "3");
        x.offer(0);
        check.dueText("0 comes ahead of 7", Steps.senders(x, 2), "0 7");
        Tested y = Steps.linked(3, 2, 2, 2);
        y.arbiter(LEAST);
        Steps.offer(y, 2, 8);
        Steps.offer(y, 1, 16);
        Steps.offer(y, 0, 12);
        // Two CREDITS each, that come back four CYCLES behind their sending.
        check.dueText("the first that is ABLE", Steps.senders(y, 10), "0 0 1 1 0 2 1 1 2 -");
    }

    private void weightsIfAble() {
        Tested x = wide(3, WEIGHTS);
        x.weight(0, 15);
        x.weight(1, 15);
        Steps.offer(x, 0, 8);
        Steps.offer(x, 1, 8);
        Steps.offer(x, 2, 4);
        check.dueText("while a FLIT waits", Steps.senders(x, 6), "0 0 1 1 2 -");
        Tested y = Steps.linked(2, 3, 3, 2);
        y.arbiter(WEIGHTS);
        y.weight(0, 15);
        Steps.offer(y, 0, 16);
        Steps.offer(y, 1, 16);
        // CREDITS of 0 come in CYCLES 6 and 7, those of 1 in CYCLES 8 and 9.
        check.dueText("while there are CREDITS", Steps.senders(y, 11), "0 0 1 1 - - 0 0 1 1 -");
        Tested z = Steps.linked(2, 1, 1, 1);
        z.arbiter(WEIGHTS);
        z.weight(0, 2);
        Steps.offer(z, 0, 12);
        check.dueText("again, behind CYCLES without CREDITS", Steps.counts(z, 9, 5), "1 1 2 2 1");
    }

    private void weightsFewerThanWeight() {
        Tested x = wide(3, WEIGHTS);
        x.weight(0, 3);
        x.weight(1, 2);
        Steps.offer(x, 0, 28);
        Steps.offer(x, 1, 20);
        Steps.offer(x, 2, 8);
        check.dueText("WEIGHTS 3, 2, 1", Steps.senders(x, 15), "0 0 0 1 1 2 0 0 0 1 1 2 0 1 -");
        Tested y = wide(2, WEIGHTS);
        y.weight(0, 15);
        Steps.offer(y, 0, 60);
        Steps.offer(y, 1, 60);
        y.run(3);
        y.weight(0, 3);
        check.dueText("WEIGHT as many as sent", Steps.senders(y, 1), "1");
        check.dueText("WEIGHT 3", Steps.senders(y, 3), "0 0 0");
        y.weight(0, 4);
        check.dueText("WEIGHT one more than sent", Steps.senders(y, 2), "0 1");
        check.dueText("WEIGHT 4", Steps.senders(y, 3), "0 0 0");
        y.weight(0, 1);
        check.dueText("WEIGHT fewer than sent", Steps.senders(y, 3), "1 0 1");
    }

    private void weightsElseTurns() {
        for (int v = 0; v < 4; v++) {
            Tested x = lastWas(v, 4, WEIGHTS);
            offerToAll(x, 4, 4);
            String due = (v + 1) % 4 + " " + (v + 2) % 4 + " " + (v + 3) % 4 + " " + v + " -";
            check.dueText("all ABLE, behind " + v, Steps.senders(x, 5), due);
            Tested y = lastWas(v, 4, WEIGHTS);
            y.offer((v + 3) % 4);
            check.dueText("one ABLE, behind " + v, Steps.senders(y, 1), "" + (v + 3) % 4);
        }
        Tested z = wide(4, WEIGHTS);
        offerToAll(z, 4, 4);
        check.dueText("from 0 on ahead of any", Steps.senders(z, 2), "0 1");
    }

    private void rowBeginsWithAnother() {
        Tested turns = wide(2, TURNS);
        Steps.offer(turns, 0, 12);
        Steps.offer(turns, 1, 4);
        check.dueText("row by TURNS", Steps.counts(turns, 9, 4), "1 1 1 2");
        Tested least = wide(2, LEAST);
        Steps.offer(least, 0, 12);
        Steps.offer(least, 1, 8);
        check.dueText("row by LEAST", Steps.counts(least, 9, 5), "1 2 3 1 2");
        Tested weights = wide(2, WEIGHTS);
        weights.weight(0, 2);
        Steps.offer(weights, 0, 12);
        Steps.offer(weights, 1, 8);
        check.dueText("row by WEIGHTS", Steps.counts(weights, 9, 5), "1 2 1 1 1");
        Tested whole = wide(2, WHOLE);
        Steps.offer(whole, 0, 12);
        Steps.offer(whole, 1, 8);
        check.dueText("row by WHOLE", Steps.counts(whole, 9, 5), "1 2 3 1 2");
        for (int arbiter : new int[] {TURNS, LEAST, WHOLE}) {
            Tested x = wide(2, arbiter);
            Steps.offer(x, 1, 8);
            Steps.offer(x, 1, 8);
            check.dueText("one alone, ARBITER " + arbiter, Steps.counts(x, 9, 5), "1 2 3 4 4");
            x.arbiter(WEIGHTS);
            x.weight(1, 6);
            Steps.offer(x, 1, 16);
            Steps.offer(x, 0, 16);
            check.dueText("WEIGHTS go on with it", Steps.senders(x, 3), "1 1 0");
        }
    }

    private void rowBeginsByTurns() {
        for (int weight = 1; weight <= 3; weight++) {
            Tested x = wide(2, WEIGHTS);
            x.weight(1, weight);
            Steps.offer(x, 1, 28);
            String[] due = {"1 1 1 1 1 1 1", "1 2 1 2 1 2 1", "1 2 3 1 2 3 1"};
            check.dueText("alone with WEIGHT " + weight, Steps.counts(x, 9, 7), due[weight - 1]);
        }
        Tested y = wide(2, TURNS);
        y.weight(0, 2);
        Steps.offer(y, 0, 32);
        y.run(4);
        y.arbiter(WEIGHTS);
        check.dueText("behind four by TURNS", Steps.counts(y, 9, 3), "1 2 1");
        y.arbiter(TURNS);
        check.dueText("and by TURNS it goes on", Steps.counts(y, 9, 1), "2");
    }

    private void whole() {
        Tested x = wide(3, WHOLE);
        Steps.offer(x, 1, 12);
        Steps.offer(x, 0, 8);
        Steps.offer(x, 1, 8);
        Steps.offer(x, 2, 60);
        check.dueText("one PACKET at a time", Steps.senders(x, 9), "0 0 1 1 1 2 2 2 2");
        Steps.offer(x, 0, 4);
        check.dueText("an offer does not break in", Steps.senders(x, 15),
                "2 2 2 2 2 2 2 2 2 2 2 0 1 1 -");
    }

    /** By TURNS a FLIT of each CHANNEL is sent, so that a PACKET of each is begun. */
    private static Tested allBegun(int channels) {
        Tested x = wide(channels, TURNS);
        offerToAll(x, channels, 12);
        x.run(channels);
        x.arbiter(WHOLE);
        return x;
    }

    private void wholeLeastOfSeveral() {
        Tested x = allBegun(3);
        check.dueText("three begun", Steps.senders(x, 7), "0 0 1 1 2 2 -");
        Tested y = wide(3, TURNS);
        Steps.offer(y, 2, 12);
        Steps.offer(y, 1, 12);
        Steps.offer(y, 0, 4);
        y.run(3);
        y.arbiter(WHOLE);
        Steps.offer(y, 0, 8);
        check.dueText("1 and 2 begun, 0 new", Steps.senders(y, 7), "1 1 2 2 0 0 -");
    }

    private void wholeOnlyBegunOnes() {
        Tested x = wide(2, WHOLE);
        Steps.offer(x, 0, 8);
        Steps.offer(x, 0, 8);
        Steps.offer(x, 1, 4);
        Steps.offer(x, 1, 4);
        check.dueText("a new one of the same CHANNEL is not begun", Steps.senders(x, 7),
                "0 0 1 0 0 1 -");
        Tested y = wide(2, WHOLE);
        Steps.offer(y, 0, 0);
        Steps.offer(y, 0, 0);
        Steps.offer(y, 1, 0);
        check.dueText("PACKETS without a byte", Steps.senders(y, 4), "0 1 0 -");
        Tested z = Steps.linked(2, 1, 1, 1);
        z.arbiter(WHOLE);
        Steps.offer(z, 1, 8);
        z.run(2);
        check.due("its first FLIT was drained", z.look(1, 10), 4);
        z.offer(0);
        check.dueText("it is begun even so", Steps.senders(z, 3), "1 0 -");
    }

    private void wholeElseNone() {
        Tested x = Steps.linked(2, 2, 2, 16);
        x.depth(0, 1);
        x.arbiter(WHOLE);
        Steps.offer(x, 0, 8);
        Steps.offer(x, 1, 8);
        check.dueText("0 waits for its CREDIT", Steps.senders(x, 8), "0 - - - 0 1 1 -");
        check.due("CYCLES in which none was sent", x.count(10), 3);
        Tested y = Steps.linked(3, 2, 2, 16);
        y.depth(1, 1);
        Steps.offer(y, 1, 8);
        Steps.offer(y, 2, 8);
        y.run(2);
        y.arbiter(WHOLE);
        y.offer(0);
        check.dueText("1 and 2 begun, 1 without CREDITS", Steps.senders(y, 5), "- - 1 2 0");
    }

    private void wholeElseTurns() {
        for (int v = 0; v < 4; v++) {
            Tested x = lastWas(v, 4, WHOLE);
            offerToAll(x, 4, 8);
            int a = (v + 1) % 4;
            int b = (v + 2) % 4;
            check.dueText("none begun, behind " + v, Steps.senders(x, 4),
                    a + " " + a + " " + b + " " + b);
        }
        Tested y = wide(4, WHOLE);
        offerToAll(y, 4, 4);
        check.dueText("from 0 on ahead of any", Steps.senders(y, 2), "0 1");
        Tested z = lastWas(2, 4, WHOLE);
        Steps.offer(z, 2, 4);
        Steps.offer(z, 2, 4);
        check.dueText("round to the one that sent last", Steps.senders(z, 3), "2 2 -");
    }
}
