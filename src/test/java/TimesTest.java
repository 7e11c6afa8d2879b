/** Promise 9: times. */
public final class TimesTest {
    public static void main(String[] args) {
        counted();
        everyState();
        wrongStates();
        Probe.end();
    }

    private static void counted() {
        Probe x = new Probe("counted");
        x.times(0, 480);
        x.board(Boards.ROOKS);
        x.begin(0, 480, 20, false, 0);
        x.times(1, 480);
        x.times(0, 481);
        x.next(0, 481, 20, false, true);
        x.next(0, 480, 20, true, true);
        x.next(0, 482, 20, true, true);
        x.next(6, 480, 20, true, true);
        x.times(3, 480);
        x.times(1, 481);
        x.times(1, 482);
        x.times(0, 484);
        x.board(Boards.START);
        x.times(0, 480);
        x.next(0, 480, 20, false, false);
        x.times(1, 480);
        x.times(0, 481);
        x.board(Boards.ROOKS);
        x.times(3, 480);
        x.back(true);
        x.back(true);
        x.times(2, 480);
        x.looks(4, 3, 2, 0);
        x.begin(0, 482, 20, false, 0);
        x.times(0, 480);
        x.times(1, 482);
        x.back(true);
        x.times(0, 482);
    }

    private static void everyState() {
        for (int passant = -2; passant <= 17; passant++) {
            Probe x = new Probe("passant " + passant);
            boolean right = passant >= 0 && passant <= 7 || passant == 15;
            for (int low = 0; low < 32; low++) {
                x.times(right ? "0" : Probe.ILLEGAL_ARGUMENT, 32 * passant + low);
            }
        }
    }

    private static void wrongStates() {
        Probe x = new Probe("wrong states");
        x.board(Boards.ROOKS);
        x.begin(0, 480, 20, false, 0);
        String before = x.everything();
        int[] wrong = {-1, 8 * 32, 14 * 32 + 31, 512, 512 + 480, 1 << 30, Integer.MIN_VALUE, Integer.MAX_VALUE};
        for (int state : wrong) {
            x.times(Probe.ILLEGAL_ARGUMENT, state);
        }
        Probe.same("after times that throws", before, x.everything());
    }
}
