/** Promises 13 and 15 to 18: look, wire, buffer, back, count. */
public final class ViewTest {
    private static final Check check = new Check("ViewTest");
    private static final int MIN = Integer.MIN_VALUE;
    private static final int MAX = Integer.MAX_VALUE;

    public static void main(String[] args) {
        promise13Look();
        promise13MostInBuffer();
        promise13PutTogether();
        promise15Wire();
        promise16Buffer();
        promise17Back();
        promise18Count();
        promise18Stalled();
        promise18LateByMasksDoesNotCount();
        promise18LateByAnArbiterDoesNotCount();
        promise18NeverLateByTurns();
        viewsChangeNothing();
        check.end();
    }

    private static void promise13Look() {
        CreditWire x = new CreditWire();
        x.link(2, 3, 2, 5);
        x.depth(1, 4);
        x.weight(1, 7);
        offer(x, 1, 22);
        offer(x, 1, 1);
        x.mask(2);
        x.mask(0);
        x.run(6);
        // Sent at 0 to 3; landed at 3, 4, 5; drained at 4 (CLOCK 3 and 5 have the MASK 0).
        int[] due = {4, 7, 0, 1, 1, 2, 3, 4, 0, 0, 4, 2};
        for (int what = 0; what < due.length; what++) {
            check.due("look(1, " + what + ")", x.look(1, what), due[what]);
        }
        int[] idle = {5, 1, 5, 0, 0, 0, 0, 0, 0, 0, 0, 0};
        for (int what = 0; what < idle.length; what++) {
            check.due("look(0, " + what + ")", x.look(0, what), idle[what]);
        }
        x.free();
        check.due("run(30)", x.run(30), 2);
        int[] end = {4, 7, 4, 0, 0, 0, 0, 7, 2, 2, 0, 3};
        for (int what = 0; what < end.length; what++) {
            check.due("look(1, " + what + ") at the end", x.look(1, what), end[what]);
        }
        x.take(1);
        check.due("look(1, 8) behind take", x.look(1, 8), 2);
        check.due("look(1, 9) behind take", x.look(1, 9), 1);
        for (int what : new int[] {-1, 12, MIN, MAX}) {
            check.due("look(1, " + what + ")", x.look(1, what), -1);
        }
        for (int v : new int[] {-1, 2, 8, MIN, MAX}) {
            check.due("look(" + v + ", 0)", x.look(v, 0), -1);
        }
    }

    private static void promise13MostInBuffer() {
        CreditWire x = new CreditWire();
        x.link(1, 1, 1, 16);
        offer(x, 0, 8);
        x.run(5);
        check.due("a FLIT that is drained as it comes counts", x.look(0, 11), 1);
        x.mask(0);
        offer(x, 0, 12);
        x.run(5);
        check.due("three pile up", x.look(0, 11), 3);
        x.free();
        x.run(5);
        check.due("the most stays", x.look(0, 11), 3);
        check.due("the BUFFER is empty", x.look(0, 5), 0);
    }

    private static void promise13PutTogether() {
        CreditWire x = new CreditWire();
        x.link(1, 1, 1, 16);
        offer(x, 0, 10);
        offer(x, 0, 6);
        x.run(1);
        int[] due = {4, 8, 0, 4, 0};
        for (int t = 0; t < due.length; t++) {
            x.run(1);
            check.due("bytes together behind CYCLE " + (t + 1), x.look(0, 10), due[t]);
        }
    }

    private static void promise15Wire() {
        CreditWire x = new CreditWire();
        x.link(2, 5, 1, 8);
        offer(x, 1, 6);
        x.run(1);
        offer(x, 0, 0);
        x.run(2);
        x.run(1);
        // Sent at 0: 1/0/0, at 1: 0/1/0, at 2: 1/0/1, at 3 none; CLOCK 4.
        String[] due = {"", "1 0 0 4", "0 1 0 0", "1 0 1 2", "", ""};
        for (int i = 0; i < due.length; i++) {
            String want = due[i].isEmpty() ? "-1 -1 -1 -1" : due[i];
            check.dueText("wire(" + i + ", 0 to 3)", x.wire(i, 0) + " " + x.wire(i, 1) + " "
                    + x.wire(i, 2) + " " + x.wire(i, 3), want);
        }
        for (int what : new int[] {-1, 4, MIN, MAX}) {
            check.due("wire(1, " + what + ")", x.wire(1, what), -1);
        }
        for (int i : new int[] {-1, 16, 17, 18, -15, MIN, MIN + 1, MAX}) {
            check.due("wire(" + i + ", 0)", x.wire(i, 0), -1);
        }
        x.run(2);
        check.due("wire(0, 0) when the first has come", x.wire(0, 1), 1);
        x.run(2);
        for (int i = 0; i < 16; i++) {
            check.due("an empty wire", x.wire(i, 0), -1);
        }
    }

    private static void promise16Buffer() {
        CreditWire x = new CreditWire();
        x.link(2, 2, 1, 8);
        x.mask(0);
        offer(x, 1, 9);
        offer(x, 1, 0);
        offer(x, 0, 60);
        x.run(20);
        String[] due = {"1 0 0 4", "1 0 1 4", "1 0 2 1", "1 1 0 0", "-1 -1 -1 -1"};
        for (int i = 0; i < due.length; i++) {
            check.dueText("buffer(1, " + i + ", 0 to 3)", buffered(x, 1, i), due[i]);
        }
        for (int i = 0; i < 8; i++) {
            check.dueText("buffer(0, " + i + ", 0 to 3)", buffered(x, 0, i), "0 2 " + i + " 4");
        }
        check.due("buffer(0, 8, 0)", x.buffer(0, 8, 0), -1);
        for (int bad : new int[] {-1, 4, MIN, MAX}) {
            check.due("buffer(1, 0, " + bad + ")", x.buffer(1, 0, bad), -1);
            check.due("buffer(1, " + bad + ", 0)", x.buffer(1, bad, 0), -1);
            check.due("buffer(" + bad + ", 0, 0)", x.buffer(bad, 0, 0), -1);
        }
        check.due("buffer(2, 0, 0)", x.buffer(2, 0, 0), -1);
        x.free();
        x.mask(2);
        x.run(1);
        check.dueText("buffer(1, 0) behind a drain", buffered(x, 1, 0), "1 0 1 4");
        check.dueText("buffer(0, 0) stays", buffered(x, 0, 0), "0 2 0 4");
    }

    private static void promise17Back() {
        CreditWire x = new CreditWire();
        x.link(2, 1, 4, 8);
        offer(x, 1, 8);
        x.run(1);
        offer(x, 0, 4);
        x.run(1);
        // CHANNEL 1 sends at 0 and 2, CHANNEL 0 at 1; drained at 1, 3 and 2.
        check.due("back(1, 3)", x.back(1, 3), 1);
        check.due("back(1, 0)", x.back(1, 0), 0);
        check.due("back(1, 2)", x.back(1, 2), 0);
        check.due("back(0, 3)", x.back(0, 3), 0);
        x.run(2);
        int[] due0 = {0, 0, 1, 0, 0};
        int[] due1 = {0, 1, 0, 1, 0};
        for (int i = 0; i < 5; i++) {
            check.due("back(0, " + i + ")", x.back(0, i), due0[i]);
            check.due("back(1, " + i + ")", x.back(1, i), due1[i]);
        }
        for (int i : new int[] {-1, 16, 17, -13, -15, MIN, MIN + 1, MIN + 3, MAX, MAX - 12}) {
            check.due("back(1, " + i + ")", x.back(1, i), 0);
        }
        for (int v : new int[] {-1, 2, 8, MIN, MAX}) {
            check.due("back(" + v + ", 1)", x.back(v, 1), 0);
        }
        x.run(2);
        check.due("CREDITS of 1", x.look(1, 2), 7);
        check.due("CREDITS of 0", x.look(0, 2), 7);
        x.run(2);
        check.due("CREDITS of 1", x.look(1, 2), 8);
        check.due("CREDITS of 0", x.look(0, 2), 8);
        check.due("back(1, 0)", x.back(1, 0), 0);
    }

    private static void promise18Count() {
        CreditWire x = new CreditWire();
        x.link(5, 6, 7, 1);
        x.arbiter(1);
        x.mask(0);
        x.mask(-1);
        x.mask(3);
        offer(x, 3, 8);
        offer(x, 4, 4);
        x.feed(11, 0, 0);
        x.run(4);
        int[] due = {4, 5, 6, 7, 1, 3, 2, 11, 4, 1, 2, 0, 0};
        for (int what = 0; what < due.length; what++) {
            check.due("count(" + what + ")", x.count(what), due[what]);
        }
        for (int what : new int[] {-1, 13, MIN, MAX}) {
            check.due("count(" + what + ")", x.count(what), -1);
        }
    }

    private static void promise18Stalled() {
        CreditWire x = new CreditWire();
        x.link(1, 1, 1, 1);
        x.run(7);
        check.due("nothing waits, nothing stalls", x.count(10), 0);
        x.mask(0);
        offer(x, 0, 8);
        x.run(1);
        check.due("sent", x.count(10), 0);
        x.run(3);
        check.due("waits without CREDITS", x.count(10), 3);
        x.free();
        // Drained at 11, CREDIT and sent at 12, nothing waits from then on.
        x.run(10);
        check.due("stalled in all", x.count(10), 4);
        check.due("in a row", x.count(9), 2);
    }

    private static void promise18LateByMasksDoesNotCount() {
        CreditWire x = new CreditWire();
        x.link(1, 1, 1, 1);
        x.mask(0);
        offer(x, 0, 4);
        check.due("LATEST", x.packet(0, 6), 5);
        x.run(50);
        x.free();
        check.due("run(9)", x.run(9), 1);
        check.due("it ARRIVED behind LATEST", x.packet(0, 5), 50);
        check.due("count(12)", x.count(12), 0);
        check.due("count(11)", x.count(11), 0);
    }

    private static void promise18LateByAnArbiterDoesNotCount() {
        CreditWire x = new CreditWire();
        x.link(2, 1, 1, 16);
        x.arbiter(1);
        for (int k = 0; k < 4; k++) {
            offer(x, 0, 60);
        }
        offer(x, 1, 0);
        x.run(100);
        check.due("it ARRIVED behind LATEST", x.packet(4, 5) > x.packet(4, 6) ? 1 : 0, 1);
        check.due("count(12)", x.count(12), 0);
    }

    private static void promise18NeverLateByTurns() {
        CreditWire x = new CreditWire();
        x.link(8, 1, 3, 1);
        x.mask(0);
        for (int k = 0; k < 24; k++) {
            offer(x, k % 8, 4);
        }
        x.run(40);
        x.free();
        for (int k = 0; k < 24; k++) {
            offer(x, k % 8, 8);
        }
        x.run(500);
        for (int k = 24; k < 48; k++) {
            check.due("LATEST holds", x.packet(k, 5) <= x.packet(k, 6) ? 1 : 0, 1);
        }
        check.due("count(12)", x.count(12), 0);
        check.due("count(11)", x.count(11), 0);
    }

    private static void viewsChangeNothing() {
        CreditWire x = new CreditWire();
        x.mask(5);
        x.mask(2);
        offer(x, 0, 33);
        offer(x, 1, 17);
        for (int i = 0; i < 30; i++) {
            x.run(1);
            check.dueText("the same views twice", Views.all(x), Views.all(x));
        }
    }

    private static String buffered(CreditWire x, int v, int i) {
        return x.buffer(v, i, 0) + " " + x.buffer(v, i, 1) + " " + x.buffer(v, i, 2) + " "
                + x.buffer(v, i, 3);
    }

    private static void offer(CreditWire x, int v, int bytes) {
        for (int left = bytes; left > 0; left -= 16) {
            x.feed(Math.min(left, 16), 0, 0);
        }
        x.offer(v);
    }
}
