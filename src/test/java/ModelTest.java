import java.util.Random;

/** Long runs of random calls (of fixed seeds), each answer held beside that of the Model. */
public final class ModelTest {
    private static final Check check = new Check("ModelTest");
    private static final int[] ODD = {-1, 0, 1, 2, 3, 7, 8, 15, 16, 17, 31, 32, 60, 61, 249, 250, 251,
        5000, 5001, Integer.MAX_VALUE, Integer.MIN_VALUE, Integer.MAX_VALUE - 1,
        Integer.MIN_VALUE + 1};

    private interface Call {
        long on();
    }

    private final Random random;
    private final Tested x = new Tested();
    private final Model m = new Model();
    // How likely a wrong argument is, of 100, and how many of the calls are views.
    private final int odd;
    private final int views;
    private final boolean undisturbed;
    private final boolean longRuns;
    private String history = "";

    private ModelTest(long seed) {
        random = new Random(seed);
        odd = seed % 3 == 0 ? 12 : 1;
        views = seed % 4 == 0 ? 60 : 20;
        undisturbed = seed % 5 == 0;
        longRuns = seed % 50 == 7;
    }

    public static void main(String[] args) {
        int seeds = args.length > 0 ? Integer.parseInt(args[0]) : 400;
        for (int seed = 1; seed <= seeds && check.wrongs() == 0; seed++) {
            new ModelTest(seed).play();
        }
        check.end();
    }

    private void play() {
        if (random.nextInt(10) != 0) {
            newLink();
        }
        while (x.callsLeft() > 0 && check.wrongs() == 0) {
            if (random.nextInt(100) < views) {
                view();
            } else {
                act();
            }
            if (x.callsLeft() % 64 == 0 && x.callsLeft() > 0) {
                allViews();
            }
        }
        if (check.wrongs() != 0) {
            System.out.println(history);
        }
    }

    private void act() {
        int kind = random.nextInt(100);
        if (kind < 28) {
            int n = arg(1, 16);
            long a = random.nextLong();
            long b = random.nextLong();
            same("feed(" + n + ", " + a + ", " + b + ")", () -> x.feed(n, a, b),
                    () -> m.feed(n, a, b));
        } else if (kind < 55) {
            int v = arg(0, m.channels - 1);
            same("offer(" + v + ")", () -> x.offer(v), () -> m.offer(v));
        } else if (kind < 75) {
            int n = arg(1, longRuns && random.nextInt(30) == 0 ? 5000 : 1 + random.nextInt(12));
            same("run(" + n + ")", () -> x.run(n), () -> m.run(n));
        } else if (kind < 85) {
            int v = arg(0, m.channels - 1);
            same("take(" + v + ")", () -> x.take(v), () -> m.take(v));
        } else if (kind < 90) {
            int v = arg(0, m.channels - 1);
            int n = arg(1, 15);
            same("weight(" + v + ", " + n + ")", () -> x.weight(v, n), () -> m.weight(v, n));
        } else if (kind < 92) {
            int v = arg(0, m.channels - 1);
            int n = arg(1, 16);
            same("depth(" + v + ", " + n + ")", () -> x.depth(v, n), () -> m.depth(v, n));
        } else {
            disturb(kind);
        }
    }

    private void disturb(int kind) {
        if (undisturbed && random.nextInt(60) != 0) {
            return;
        }
        if (kind < 95) {
            int a = arg(0, 3);
            same("arbiter(" + a + ")", () -> x.arbiter(a), () -> m.arbiter(a));
        } else if (kind < 98) {
            int bits = random.nextInt();
            same("mask(" + bits + ")", () -> x.mask(bits), () -> m.mask(bits));
        } else if (kind < 99) {
            same("free()", x::free, m::free);
        } else if (random.nextInt(4) == 0) {
            newLink();
        }
    }

    private void newLink() {
        int channels = arg(1, 8);
        boolean tight = random.nextBoolean();
        int wire = arg(1, tight ? 3 : 16);
        int back = arg(1, tight ? 3 : 16);
        int depth = arg(1, tight ? 4 : 16);
        same("link(" + channels + ", " + wire + ", " + back + ", " + depth + ")",
                () -> {
                    x.link(channels, wire, back, depth);
                    return 0;
                },
                () -> {
                    m.link(channels, wire, back, depth);
                    return 0;
                });
    }

    private void view() {
        int v = arg(0, m.channels - 1);
        int i = arg(0, 15);
        int k = arg(0, Math.max(0, m.packs.size() - 1));
        int what = arg(0, 12);
        int four = arg(0, 3);
        switch (random.nextInt(7)) {
            case 0 -> same("look(" + v + ", " + what + ")", () -> x.look(v, what),
                    () -> m.look(v, what));
            case 1 -> same("packet(" + k + ", " + what + ")", () -> x.packet(k, what),
                    () -> m.packet(k, what));
            case 2 -> same("wire(" + i + ", " + four + ")", () -> x.wire(i, four),
                    () -> m.wire(i, four));
            case 3 -> same("buffer(" + v + ", " + i + ", " + four + ")",
                    () -> x.buffer(v, i, four), () -> m.buffer(v, i, four));
            case 4 -> same("back(" + v + ", " + i + ")", () -> x.back(v, i), () -> m.back(v, i));
            case 5 -> same("answer(" + k + ")", () -> x.answer(k), () -> m.answer(k));
            default -> same("count(" + what + ")", () -> x.count(what), () -> m.count(what));
        }
    }

    private void allViews() {
        for (int what = -1; what <= 13; what++) {
            int w = what;
            same("count(" + w + ")", () -> x.aside().count(w), () -> m.count(w));
            for (int v = -1; v <= m.channels; v++) {
                int c = v;
                same("look(" + c + ", " + w + ")", () -> x.aside().look(c, w), () -> m.look(c, w));
            }
        }
        for (int i = -1; i <= 17; i++) {
            int at = i;
            for (int what = -1; what <= 4; what++) {
                int w = what;
                same("wire(" + at + ", " + w + ")", () -> x.aside().wire(at, w),
                        () -> m.wire(at, w));
            }
            for (int v = -1; v <= m.channels; v++) {
                int c = v;
                same("back(" + c + ", " + at + ")", () -> x.aside().back(c, at),
                        () -> m.back(c, at));
                same("buffer(" + c + ", " + at + ", 1)", () -> x.aside().buffer(c, at, 1),
                        () -> m.buffer(c, at, 1));
                same("buffer(" + c + ", " + at + ", 2)", () -> x.aside().buffer(c, at, 2),
                        () -> m.buffer(c, at, 2));
            }
        }
        for (int k = -1; k <= m.packs.size(); k++) {
            int p = k;
            for (int what = 0; what <= 8; what++) {
                int w = what;
                same("packet(" + p + ", " + w + ")", () -> x.aside().packet(p, w),
                        () -> m.packet(p, w));
            }
        }
        for (int i = -1; i <= 60; i++) {
            int at = i;
            same("answer(" + at + ")", () -> x.aside().answer(at), () -> m.answer(at));
        }
        check.due("count(11), always 0", x.aside().count(11), 0);
        check.due("count(12), always 0", x.aside().count(12), 0);
    }

    private int arg(int least, int most) {
        if (random.nextInt(100) < odd) {
            return ODD[random.nextInt(ODD.length)];
        }
        return least + random.nextInt(most - least + 1);
    }

    private void same(String call, Call mine, Call due) {
        String got = told(mine);
        if (history.length() < 20000) {
            history += call + " -> " + got + "\n";
        }
        check.dueText(call, got, told(due));
    }

    private static String told(Call call) {
        try {
            return String.valueOf(call.on());
        } catch (RuntimeException e) {
            return "throws " + e.getClass().getSimpleName();
        }
    }
}
