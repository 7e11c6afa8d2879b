import java.util.Random;

/** All promises at once: long runs of calls, made by a fixed seed, answer as the model of the document does. */
public final class ModelTest {
    private static final int RUNS = 400;
    private static final int CALLS = 512;
    private static final String[] FENS = {
        Boards.START, Boards.ROOKS, Boards.KINGS, "4k3/8/8/8/8/8/8/R3K3", "4k3/8/8/8/8/8/8/B3K3",
        "4k2b/8/8/8/8/8/8/B3K3", "4k3/8/8/8/8/8/8/Bb2K3", "4k3/8/8/8/8/8/8/NN2K3", "8/p7/8/8/8/8/8/4K2k",
    };
    private static final int[] ODD = {-1, 4, 8, 256, 300, 301, 512, 640, 1001, Integer.MIN_VALUE, Integer.MAX_VALUE};

    private final Random random;
    private final Model model = new Model();
    private final Probe probe;
    private final int boards;
    private final int states;
    private int calls = 0;

    private ModelTest(int run) {
        random = new Random(run);
        probe = new Probe("run " + run);
        boards = 1 + random.nextInt(FENS.length);
        states = 1 + random.nextInt(40);
    }

    public static void main(String[] args) {
        for (int run = 0; run < RUNS; run++) {
            ModelTest test = new ModelTest(run);
            while (test.calls + 4 <= CALLS) {
                test.step();
            }
        }
        Probe.end();
    }

    private void step() {
        int kind = random.nextInt(100);
        if (kind < 8) {
            board();
        } else if (kind < 12) {
            squares(oddOr(random.nextInt(4)), random.nextLong() & 0x7777777777777777L << random.nextInt(2));
        } else if (kind < 14 || model.verdict() == -1 || ended() && kind < 40) {
            begin(state(), moves(), random.nextBoolean(), clock());
        } else if (kind < 65) {
            next(state(), moves(), random.nextBoolean(), random.nextInt(40) == 0);
        } else if (kind < 70) {
            back();
        } else {
            ask(kind);
        }
    }

    private boolean ended() {
        return model.verdict() >= 1 && model.verdict() <= 5;
    }

    private void ask(int kind) {
        int i = oddOr(random.nextInt((int) model.look(0) + 1));
        int w = oddOr(random.nextInt(8));
        calls++;
        if (kind < 84) {
            probe.of(model.of(i, w), i, w);
        } else if (kind < 88) {
            probe.men(model.men(i, w % 5), i, w % 5);
        } else if (kind < 92) {
            int state = state();
            probe.times(model.times(state), state);
        } else if (kind < 96) {
            probe.look((int) model.look(w), w);
        } else {
            probe.verdict(model.verdict());
        }
    }

    private void board() {
        long[] parts = Boards.parts(FENS[random.nextInt(boards)]);
        for (int part = 0; part < 4; part++) {
            squares(part, parts[part]);
        }
    }

    private void squares(int part, long men) {
        calls++;
        probe.squares((boolean) model.squares(part, men), part, men);
    }

    private void begin(int state, int moves, boolean check, int clock) {
        calls++;
        probe.begin(model.begin(state, moves, check, clock), state, moves, check, clock);
    }

    private void next(int state, int moves, boolean check, boolean irreversible) {
        calls++;
        probe.next(model.next(state, moves, check, irreversible), state, moves, check, irreversible);
    }

    private void back() {
        calls++;
        probe.back((boolean) model.back());
    }

    private int state() {
        int state = random.nextInt(states);
        return oddOr(random.nextBoolean() ? 480 + state % 32 : state * 7 % 256);
    }

    private int moves() {
        return oddOr(random.nextInt(60) == 0 ? 0 : 1 + random.nextInt(300));
    }

    private int clock() {
        return oddOr(random.nextInt(random.nextBoolean() ? 20 : 160));
    }

    private int oddOr(int usual) {
        return random.nextInt(50) == 0 ? ODD[random.nextInt(ODD.length)] : usual;
    }
}
