/** Promise 4: next. */
public final class NextTest {
    public static void main(String[] args) {
        clockAndCount();
        behindAnEnd();
        behindAClaim();
        wrongArguments();
        stateComesFirst();
        fullRow();
        Probe.end();
    }

    private static void clockAndCount() {
        Probe x = new Probe("clock and count");
        x.board(Boards.ROOKS);
        x.begin(0, 480, 20, false, 7);
        x.next(0, 481, 20, false, false);
        x.next(0, 480, 20, true, false);
        x.next(0, 481, 20, false, true);
        x.next(6, 480, 20, false, false);
        x.next(6, 481, 20, false, false);
        x.next(6, 480, 20, false, true);
        x.next(6, 481, 20, false, true);
        x.next(4, 480, 20, false, false);
        int[] counts = {1, 1, 2, 2, 3, 3, 4, 4, 5};
        int[] clocks = {7, 8, 9, 0, 1, 2, 0, 0, 1};
        for (int i = 0; i < counts.length; i++) {
            x.of(counts[i], i, 0);
            x.of(clocks[i], i, 1);
        }
        x.next(Probe.ILLEGAL_STATE, 481, 20, false, true);
    }

    private static void behindAnEnd() {
        Probe x = new Probe("behind an end");
        x.next(Probe.ILLEGAL_STATE, 480, 20, false, false);
        x.board(Boards.ROOKS);
        x.begin(1, 480, 0, true, 0);
        refuses(x);
        x.begin(2, 480, 0, false, 0);
        refuses(x);
        x.begin(5, 480, 20, false, 150);
        refuses(x);
        x.board(Boards.KINGS);
        x.begin(3, 480, 20, false, 0);
        refuses(x);
        x.board(Boards.ROOKS);
        x.begin(0, 480, 20, false, 0);
        x.next(0, 480, 20, false, true);
        x.next(6, 480, 20, false, true);
        x.next(6, 480, 20, false, true);
        x.next(4, 480, 20, false, true);
        refuses(x);
        x.back(true);
        x.next(1, 481, 0, true, true);
        refuses(x);
        x.back(true);
        x.next(0, 481, 9, true, true);
    }

    private static void refuses(Probe x) {
        String before = x.everything();
        x.next(Probe.ILLEGAL_STATE, 481, 20, false, true);
        x.next(Probe.ILLEGAL_STATE, 480, 20, false, false);
        Probe.same("after next that throws", before, x.everything());
    }

    private static void behindAClaim() {
        Probe x = new Probe("behind a claim");
        x.board(Boards.ROOKS);
        x.begin(7, 480, 20, false, 147);
        x.next(7, 480, 20, false, false);
        x.next(8, 480, 20, false, false);
        x.next(5, 480, 20, false, false);
        x.back(true);
        x.next(6, 480, 20, false, true);
        x.next(0, 481, 20, false, false);
    }

    private static void wrongArguments() {
        Probe x = new Probe("wrong arguments");
        x.board(Boards.ROOKS);
        x.begin(0, 480, 20, false, 11);
        String before = x.everything();
        int[] states = {-1, -32, 8 * 32, 8 * 32 + 31, 14 * 32, 14 * 32 + 31, 512, 1024 + 480,
            Integer.MIN_VALUE, Integer.MAX_VALUE};
        for (int state : states) {
            x.next(Probe.ILLEGAL_ARGUMENT, state, 20, false, false);
        }
        int[] moves = {-1, 301, Integer.MIN_VALUE, Integer.MAX_VALUE};
        for (int wrong : moves) {
            x.next(Probe.ILLEGAL_ARGUMENT, 480, wrong, false, true);
        }
        Probe.same("after next that throws", before, x.everything());
        x.next(0, 7 * 32 + 31, 300, false, false);
        x.next(0, 511, 1, false, false);
        x.next(0, 0, 1, false, false);
        x.of(14, 3, 1);
        x.next(2, 480, 0, false, false);
    }

    private static void stateComesFirst() {
        Probe x = new Probe("which exception");
        x.next(Probe.ILLEGAL_STATE, -1, 301, false, false);
        x.begin(1, 480, 0, true, 0);
        x.next(Probe.ILLEGAL_STATE, 512, -1, false, false);
        x.back(true);
        x.next(Probe.ILLEGAL_STATE, 512, -1, false, false);
    }

    /** 640 positions lie beyond an object's 512 calls; the row's end must all the same not be run over. */
    private static void fullRow() {
        GameArbiter x = new GameArbiter();
        x.begin(0, 20, false, 0);
        for (int i = 1; i < 640; i++) {
            x.next(i % 256, 20, false, true);
        }
        Probe.same("full row: positions", 640, x.look(0));
        Probe.same("full row: next", Probe.ILLEGAL_STATE, Probe.answer(() -> x.next(480, 20, false, true)));
        Probe.same("full row: next with wrong moves", Probe.ILLEGAL_STATE,
                Probe.answer(() -> x.next(480, 301, false, true)));
        Probe.same("full row: positions left", 640, x.look(0));
        Probe.same("full row: the last one's count", 3, x.of(639, 0));
        Probe.same("full row: times", 2, x.times(255));
        Probe.same("full row: back", true, x.back());
        Probe.same("full row: next again", 0, x.next(480, 20, false, true));
    }
}
