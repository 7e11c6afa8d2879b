/** Promise 10: look. */
public final class LookTest {
    public static void main(String[] args) {
        withoutAGame();
        theGreatestIsNotTheLast();
        noSuchWhich();
        Probe.end();
    }

    private static void withoutAGame() {
        Probe x = new Probe("without a game");
        x.looks(0, 0, 0, 0);
        x.begin(5, 480, 20, false, 500);
        x.looks(1, 1, 1, 500);
        x.back(true);
        x.looks(0, 0, 0, 0);
    }

    private static void theGreatestIsNotTheLast() {
        Probe x = new Probe("the greatest");
        x.board(Boards.ROOKS);
        x.begin(0, 480, 20, false, 30);
        x.looks(1, 1, 1, 30);
        x.next(0, 481, 20, false, true);
        x.looks(2, 2, 1, 30);
        x.next(0, 480, 20, false, false);
        x.looks(3, 2, 2, 30);
        x.next(6, 480, 20, false, false);
        x.next(0, 482, 20, false, false);
        x.looks(5, 3, 3, 30);
        x.next(0, 482, 20, false, false);
        x.looks(6, 3, 3, 30);
        x.back(true);
        x.back(true);
        x.looks(4, 2, 3, 30);
        x.back(true);
        x.looks(3, 2, 2, 30);
        x.begin(0, 480, 20, false, 2);
        x.next(0, 481, 20, false, false);
        x.next(0, 482, 20, false, false);
        x.next(0, 483, 20, false, true);
        x.looks(4, 4, 1, 4);
    }

    private static void noSuchWhich() {
        Probe x = new Probe("no such which");
        int[] wrong = {-1, 4, 5, Integer.MIN_VALUE, Integer.MAX_VALUE};
        for (int which : wrong) {
            x.look(GameArbiter.NONE, which);
        }
        x.begin(0, 480, 20, false, 0);
        for (int which : wrong) {
            x.look(GameArbiter.NONE, which);
        }
        x.looks(1, 1, 1, 0);
    }
}
