/** Promise 5: back. */
public final class BackTest {
    public static void main(String[] args) {
        eachStepIsUndone();
        behindAnEnd();
        forgottenPositionsDoNotCount();
        Probe.end();
    }

    private static void eachStepIsUndone() {
        Probe x = new Probe("each step");
        x.back(false);
        x.board(Boards.ROOKS);
        String[] seen = new String[6];
        seen[0] = x.everything();
        x.begin(0, 480, 20, false, 97);
        seen[1] = x.everything();
        x.next(0, 481, 20, false, false);
        seen[2] = x.everything();
        x.next(0, 480, 20, false, false);
        seen[3] = x.everything();
        x.next(8, 480, 20, false, false);
        x.back(true);
        x.next(6, 480, 20, false, true);
        seen[4] = x.everything();
        x.next(1, 480, 0, true, false);
        for (int step = 4; step >= 0; step--) {
            x.back(true);
            Probe.same("back to " + step, seen[step], x.everything());
        }
        x.verdict(GameArbiter.NONE);
        x.back(false);
        Probe.same("back without a game", seen[0], x.everything());
        x.next(Probe.ILLEGAL_STATE, 480, 20, false, false);
    }

    private static void behindAnEnd() {
        Probe x = new Probe("behind an end");
        x.board(Boards.ROOKS);
        x.begin(7, 480, 20, false, 149);
        x.next(5, 481, 20, false, false);
        x.back(true);
        x.next(0, 481, 20, false, true);
        x.of(0, 1, 1);
    }

    private static void forgottenPositionsDoNotCount() {
        Probe x = new Probe("forgotten");
        x.board(Boards.ROOKS);
        x.begin(0, 480, 20, false, 0);
        x.next(0, 480, 20, false, false);
        x.back(true);
        x.next(0, 480, 20, false, false);
        x.of(2, 1, 0);
        x.times(2, 480);
        x.back(true);
        x.of(Probe.OUT_OF_BOUNDS, 1, 0);
        x.men(Probe.OUT_OF_BOUNDS, 1, 0);
        x.looks(1, 1, 1, 0);
    }
}
