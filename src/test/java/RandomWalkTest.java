import java.util.Random;

/**
 * Runs of random calls, with wrong arguments among them: nothing but the document's exceptions comes,
 * the same calls answer the same, and what must hold after every call holds. Some calls are two or
 * four, and looks come on top: together they are fewer than 512 for each object.
 */
public final class RandomWalkTest {
    private static final int RUNS = 1200;
    private static final int CALLS = 320;
    private static final int CUTS = 8;

    private final int[] methods = new int[CALLS];
    private final int[][] arguments = new int[CALLS][4];
    private final long[] answers = new long[CALLS];
    private final Random random;
    private int[] args;
    private int sent;

    private RandomWalkTest(long seed) {
        random = new Random(seed);
    }

    public static void main(String[] args) {
        int sent = 0;
        for (int run = 0; run < RUNS; run++) {
            Due.on("run " + run);
            RandomWalkTest walk = new RandomWalkTest(run);
            walk.goOn();
            sent += walk.sent;
        }
        Due.yes("letters were sent", sent > RUNS);
        Due.end();
    }

    private void goOn() {
        TwinRooms x = new TwinRooms();
        for (int k = 0; k < CALLS; k++) {
            methods[k] = random.nextInt(40);
            for (int a = 0; a < 4; a++) {
                arguments[k][a] = anyArgument();
            }
            answers[k] = callOf(x, k);
        }
        holds(x);
        for (int cut = 0; cut < CUTS; cut++) {
            goAgain(random.nextInt(CALLS));
        }
    }

    /** A new object gets the first calls of the walk, and is looked at. */
    private void goAgain(int calls) {
        TwinRooms x = new TwinRooms();
        for (int k = 0; k < calls; k++) {
            Due.is("the same call " + k, answers[k], callOf(x, k));
        }
        holds(x);
    }

    private long callOf(TwinRooms x, int k) {
        args = arguments[k];
        return callOn(x, methods[k]);
    }

    private int anyArgument() {
        int kind = random.nextInt(40);
        if (kind == 0) {
            return random.nextInt();
        }
        return kind < 20 ? random.nextInt(2) : kind < 36 ? random.nextInt(6) : random.nextInt(60) - 4;
    }

    private long callOn(TwinRooms y, int method) {
        try {
            return method < 20 ? smallCall(y, method) : letterCall(y, method);
        } catch (RuntimeException e) {
            boolean state = e.getClass() == IllegalStateException.class;
            boolean argument = e.getClass() == IllegalArgumentException.class;
            boolean may = argument && method >= 7 && method <= 14 || state && method >= 8 && method <= 14;
            if (!may) {
                throw e;
            }
            return state ? -2000 : -3000;
        }
    }

    private long smallCall(TwinRooms y, int method) {
        switch (method) {
            case 0: return y.road(args[2], args[3], args[1] * 20) ? 1 : 0;
            case 1: return y.district(args[2], args[0]) ? 1 : 0;
            case 2: return y.card(args[2], args[3], args[1], args[0]) ? 1 : 0;
            case 3: return y.questions(args[3]);
            case 4: return y.unit(args[2], args[3], args[0]) ? 1 : 0;
            case 5: return y.status(args[2], args[3]) ? 1 : 0;
            case 6: return y.speed(args[0], 49 + args[1]) ? 1 : 0;
            case 7: return y.tick(args[3] * 3);
            case 8: y.ask(args[0], args[1]); return 0;
            case 9: y.store(args[0], args[1]); return 0;
            case 10: return y.take(args[0], args[2], args[1]);
            case 11: return y.answer(args[0], args[1], args[2] > 0);
            case 12: return y.order(args[0], args[1]);
            case 13: return args[3] == 0 ? closed(y) : y.order(args[0], args[2]);
            case 14: y.ask(args[0], 0); return 0;
            case 15: return args[3] == 0 && y.crash(args[0]) ? 1 : 0;
            case 16: return y.mount(args[0]) ? 1 : 0;
            case 17: return y.eta(args[2], args[3]);
            case 18: return y.nearest(args[0], args[1], args[2], args[3]);
            default: return looked(y);
        }
    }

    private long closed(TwinRooms y) {
        y.close(args[0], args[1]);
        return 0;
    }

    private long looked(TwinRooms y) {
        return y.unitIs(args[0], args[1])
                + 31L * y.unitKnown(args[0], args[1], args[2])
                + 961L * y.callKnown(args[0], args[1], args[2])
                + 29791L * y.grantOf(args[0], args[1]);
    }

    private long letterCall(TwinRooms y, int method) {
        switch (method) {
            case 20: return y.lose(args[2]) ? 1 : 0;
            case 21: return y.twin(args[2]) ? 1 : 0;
            case 22: return y.letter(args[0], args[1]);
            case 23: return y.deliver(y.letters() - 1) ? 1 : 0;
            default: return y.deliver(args[1]) ? 1 : 0;
        }
    }

    private void holds(TwinRooms x) {
        int letters = x.letters();
        sent += letters;
        Due.yes("0 .. 48 letters wait", letters >= 0 && letters <= 48);
        for (int d = 0; d < 4; d++) {
            Due.no("one room at a time", x.grantOf(0, d) > 0 && x.grantOf(1, d) > 0);
        }
        for (int u = 0; u < 6; u++) {
            int state = x.unitIs(u, 0);
            boolean atWork = state == 1 || state == 2;
            Due.yes("a unit at work has a call", atWork == x.unitIs(u, 2) >= 0);
            Due.yes("no room knows more than the unit", known(x, u) <= x.unitIs(u, 4));
        }
    }

    private static int known(TwinRooms x, int unit) {
        return Math.max(x.unitKnown(0, unit, 3), x.unitKnown(1, unit, 3));
    }
}
