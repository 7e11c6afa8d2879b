/** The edges of what is asked: of, men, times and look. */
public final class EdgeAskTest {
    private static final int[] FAR = {
        -2, -8, 16, 512, 640, 1 << 27, 1 << 28, 1 << 29, 1 << 30, -(1 << 29), -(1 << 30),
        Integer.MIN_VALUE, Integer.MIN_VALUE + 1, Integer.MAX_VALUE - 1, Integer.MAX_VALUE,
    };

    public static void main(String[] args) {
        ofPositions();
        ofFacts();
        ofFirstAndBefore();
        ofMenCounted();
        menOfPositions();
        menOfParts();
        menAsTold();
        timesWithoutAGame();
        timesFromNoneToAll();
        timesAsksOnly();
        lookAtWhich();
        lookAtTheGreatest();
        Probe.end();
    }

    private static void ofPositions() {
        for (int positions = 0; positions <= 3; positions++) {
            Probe x = game("of: \"if there is none such\", of " + positions, positions);
            for (int i = 0; i < positions; i++) {
                x.of(480 + i, i, 5);
            }
            x.of(Probe.OUT_OF_BOUNDS, positions, 5);
            x.of(Probe.OUT_OF_BOUNDS, -1, 5);
            for (int i : FAR) {
                x.of(Probe.OUT_OF_BOUNDS, i, 0);
                x.of(Probe.OUT_OF_BOUNDS, i, 7);
            }
        }
    }

    private static void ofFacts() {
        Probe x = game("of: \"or no such w\"", 2);
        x.facts(0, 1, 0, 0, 0, GameArbiter.NONE, 480, 0, 32);
        x.facts(1, 1, 1, 0, 1, GameArbiter.NONE, 481, 0, 32);
        int[] wrong = {-1, 8, 9};
        for (int i = -1; i <= 2; i++) {
            for (int w : wrong) {
                x.of(Probe.OUT_OF_BOUNDS, i, w);
            }
        }
        for (int w : FAR) {
            x.of(Probe.OUT_OF_BOUNDS, 0, w);
            x.of(Probe.OUT_OF_BOUNDS, 1, w);
            x.of(Probe.OUT_OF_BOUNDS, w, w);
        }
    }

    private static void ofFirstAndBefore() {
        Probe x = new Probe("of: \"the first .. that is the same\", \"nearest, NONE if there is none\"");
        int[] states = {480, 481, 480, 480, 481, 482, 480};
        int[] verdicts = {0, 0, 0, 6, 0, 0, 6};
        int[] first = {0, 1, 0, 0, 1, 5, 0};
        int[] before = {GameArbiter.NONE, GameArbiter.NONE, 0, 2, 1, GameArbiter.NONE, 3};
        x.begin(0, states[0], 20, false, 0);
        for (int i = 1; i < states.length; i++) {
            x.next(verdicts[i], states[i], 20, false, false);
        }
        for (int i = 0; i < states.length; i++) {
            x.of(first[i], i, 3);
            x.of(before[i], i, 4);
        }
    }

    private static void ofMenCounted() {
        Probe x = new Probe("of: \"how many men there are\", from none to 64");
        x.begin(0, 480, 20, false, 0);
        x.of(0, 0, 7);
        long[] parts = new long[4];
        for (int square = 63; square >= 0; square--) {
            Boards.put(parts, square, 1 + square % 12);
            x.squares(true, square / 16, parts[square / 16]);
            x.begin(0, 480, 20, false, 0);
            x.of(64 - square, 0, 7);
        }
    }

    private static void menOfPositions() {
        for (int positions = 0; positions <= 3; positions++) {
            Probe x = game("men: \"if there is none such\", of " + positions, positions);
            for (int i = 0; i < positions; i++) {
                x.men(Boards.START, i);
            }
            x.men(Probe.OUT_OF_BOUNDS, positions, 0);
            x.men(Probe.OUT_OF_BOUNDS, -1, 3);
            for (int i : FAR) {
                x.men(Probe.OUT_OF_BOUNDS, i, 0);
                x.men(Probe.OUT_OF_BOUNDS, i, 3);
            }
        }
    }

    private static void menOfParts() {
        Probe x = game("men: \"or part is not 0 .. 3\"", 2);
        int[] wrong = {-1, 4, 5};
        for (int i = -1; i <= 2; i++) {
            for (int part : wrong) {
                x.men(Probe.OUT_OF_BOUNDS, i, part);
            }
        }
        for (int part : FAR) {
            x.men(Probe.OUT_OF_BOUNDS, 0, part);
            x.men(Probe.OUT_OF_BOUNDS, 1, part);
            x.men(Probe.OUT_OF_BOUNDS, part, part);
        }
    }

    private static void menAsTold() {
        Probe x = new Probe("men: \"as they were told\"");
        long full = 0xCCCCCCCCCCCCCCCCL;
        x.begin(0, 480, 20, false, 0);
        for (int part = 0; part <= 3; part++) {
            x.squares(true, part, full);
        }
        x.next(0, 480, 20, false, false);
        x.squares(true, 0, 0x8000000000000000L);
        x.squares(true, 3, 1L);
        x.next(0, 480, 20, false, false);
        x.board(Boards.START);
        x.men(Boards.EMPTY, 0);
        for (int part = 0; part <= 3; part++) {
            x.men(full, 1, part);
        }
        x.men(Long.MIN_VALUE, 2, 0);
        x.men(full, 2, 1);
        x.men(full, 2, 2);
        x.men(1L, 2, 3);
    }

    private static void timesWithoutAGame() {
        Probe x = new Probe("times without a game");
        x.times(0, 0);
        x.times(0, 511);
        x.times(Probe.ILLEGAL_ARGUMENT, 256);
        x.times(Probe.ILLEGAL_ARGUMENT, -1);
        x.begin(0, 480, 20, false, 0);
        x.times(1, 480);
        x.back(true);
        x.times(0, 480);
    }

    private static void timesFromNoneToAll() {
        Probe x = new Probe("times: \"How many positions of the game are the same\"");
        int[] verdicts = {0, 0, 6, 6, 4};
        x.begin(0, 481, 20, false, 0);
        x.times(0, 480);
        for (int i = 0; i < verdicts.length; i++) {
            x.next(verdicts[i], 480, 20, false, false);
            x.times(i + 1, 480);
            x.times(1, 481);
        }
        x.squares(true, 3, 1L);
        x.times(0, 480);
        x.squares(true, 3, 0L);
        x.times(5, 480);
    }

    private static void timesAsksOnly() {
        Probe x = game("times tells no position", 2);
        String before = x.everything();
        x.times(1, 480);
        x.times(0, 484);
        x.times(Probe.ILLEGAL_ARGUMENT, 512);
        Probe.same("behind times", before, x.everything());
    }

    private static void lookAtWhich() {
        for (int positions = 0; positions <= 2; positions++) {
            Probe x = game("look: \"NONE for any other which\", of " + positions, positions);
            int some = positions == 0 ? 0 : 1;
            x.looks(positions, positions, some, positions == 2 ? 1 : 0);
            x.look(GameArbiter.NONE, -1);
            x.look(GameArbiter.NONE, 4);
            for (int which : FAR) {
                x.look(GameArbiter.NONE, which);
            }
        }
    }

    /** It is the first one, one amid them and the last one, and goes with what is taken back. */
    private static void lookAtTheGreatest() {
        Probe x = new Probe("look: \"the greatest COUNT\", \"the greatest CLOCK\"");
        x.begin(0, 480, 20, false, 2);
        x.next(0, 481, 20, false, true);
        x.looks(2, 2, 1, 2);
        x.next(0, 480, 20, false, false);
        x.looks(3, 2, 2, 2);
        x.next(0, 481, 20, false, false);
        x.next(6, 480, 20, false, false);
        x.looks(5, 2, 3, 3);
        x.next(0, 482, 20, false, true);
        x.looks(6, 3, 3, 3);
        x.back(true);
        x.back(true);
        x.looks(4, 2, 2, 2);
        x.back(true);
        x.back(true);
        x.back(true);
        x.looks(1, 1, 1, 2);
        x.back(true);
        x.looks(0, 0, 0, 0);
    }

    private static Probe game(String name, int positions) {
        Probe x = new Probe(name);
        x.board(Boards.START);
        for (int i = 0; i < positions; i++) {
            if (i == 0) {
                x.begin(0, 480, 20, false, 0);
            } else {
                x.next(0, 480 + i, 20, false, false);
            }
        }
        return x;
    }
}
