/** Promise 3: begin. */
public final class BeginTest {
    public static void main(String[] args) {
        answersTheVerdict();
        everyState();
        edgesOfMovesAndClock();
        refusedChangesNothing();
        refusedWithoutGame();
        newGame();
        Probe.end();
    }

    private static void answersTheVerdict() {
        Probe x = new Probe("its verdict");
        x.board(Boards.ROOKS);
        x.begin(0, 480, 20, false, 0);
        x.begin(1, 480, 0, true, 0);
        x.begin(2, 480, 0, false, 0);
        x.begin(5, 480, 20, false, 150);
        x.begin(7, 480, 20, true, 100);
        x.board(Boards.KINGS);
        x.begin(3, 480, 5, false, 0);
    }

    private static void everyState() {
        for (int passant = -1; passant <= 16; passant++) {
            Probe x = new Probe("passant " + passant);
            boolean right = passant >= 0 && passant <= 7 || passant == 15;
            for (int low = 0; low < 32; low++) {
                int state = 32 * passant + low;
                x.begin(right ? "0" : Probe.ILLEGAL_ARGUMENT, state, 20, false, 0);
                x.of(right ? String.valueOf(state) : Probe.OUT_OF_BOUNDS, 0, 5);
            }
        }
        Probe x = new Probe("states far off");
        int[] wrong = {Integer.MIN_VALUE, Integer.MAX_VALUE, 480 + 512, 480 + 1024, 480 + (1 << 30), 480 | 1 << 31};
        for (int state : wrong) {
            x.begin(Probe.ILLEGAL_ARGUMENT, state, 20, false, 0);
        }
    }

    private static void edgesOfMovesAndClock() {
        Probe x = new Probe("moves and clock");
        x.begin(0, 480, 300, false, 0);
        x.begin(0, 480, 1, false, 0);
        x.begin(Probe.ILLEGAL_ARGUMENT, 480, 301, false, 0);
        x.begin(Probe.ILLEGAL_ARGUMENT, 480, -1, false, 0);
        x.begin(Probe.ILLEGAL_ARGUMENT, 480, Integer.MIN_VALUE, false, 0);
        x.begin(Probe.ILLEGAL_ARGUMENT, 480, Integer.MAX_VALUE, false, 0);
        x.begin(5, 480, 20, false, 1000);
        x.of(1000, 0, 1);
        x.begin(Probe.ILLEGAL_ARGUMENT, 480, 20, false, 1001);
        x.begin(Probe.ILLEGAL_ARGUMENT, 480, 20, false, -1);
        x.begin(Probe.ILLEGAL_ARGUMENT, 480, 20, false, Integer.MIN_VALUE);
        x.begin(Probe.ILLEGAL_ARGUMENT, 480, 20, false, Integer.MAX_VALUE);
        x.looks(1, 1, 1, 1000);
    }

    private static void refusedChangesNothing() {
        Probe x = new Probe("refused");
        x.board(Boards.ROOKS);
        x.begin(0, 480, 20, false, 40);
        x.next(0, 481, 20, false, false);
        x.next(0, 480, 20, false, false);
        String before = x.everything();
        x.begin(Probe.ILLEGAL_ARGUMENT, 256, 20, false, 0);
        x.begin(Probe.ILLEGAL_ARGUMENT, 480, 301, false, 0);
        x.begin(Probe.ILLEGAL_ARGUMENT, 480, 20, false, 1001);
        Probe.same("after begin that throws", before, x.everything());
        x.next(0, 481, 20, false, false);
        x.facts(3, 2, 43, 0, 1, 1, 481, 0, 4);
    }

    private static void refusedWithoutGame() {
        Probe x = new Probe("refused without a game");
        x.begin(Probe.ILLEGAL_ARGUMENT, 480, 20, false, 1001);
        x.verdict(GameArbiter.NONE);
        x.looks(0, 0, 0, 0);
        x.next(Probe.ILLEGAL_STATE, 480, 20, false, false);
    }

    private static void newGame() {
        Probe x = new Probe("a new game");
        x.board(Boards.ROOKS);
        x.begin(0, 480, 20, false, 90);
        x.next(0, 481, 20, false, false);
        x.next(0, 480, 20, false, false);
        x.next(1, 481, 0, true, false);
        x.begin(0, 480, 20, false, 3);
        x.looks(1, 1, 1, 3);
        x.facts(0, 1, 3, 0, 0, -1, 480, 0, 4);
        x.of(Probe.OUT_OF_BOUNDS, 1, 0);
        x.times(0, 481);
        x.back(true);
        x.back(false);
    }
}
