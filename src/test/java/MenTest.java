/** Promise 8: men. */
public final class MenTest {
    public static void main(String[] args) {
        asTold();
        outOfBounds();
        Probe.end();
    }

    private static void asTold() {
        Probe x = new Probe("as told");
        String[] fens = {Boards.START, Boards.ROOKS, Boards.START, "8/8/3q4/8/8/8/8/8", "kkkkkkkk/8/8/8/8/8/8/k7"};
        x.board(fens[0]);
        x.begin(0, 480, 20, false, 0);
        for (int i = 1; i < fens.length; i++) {
            x.board(fens[i]);
            x.next(0, 480, 20, false, false);
        }
        x.board(Boards.EMPTY);
        for (int i = 0; i < fens.length; i++) {
            x.men(fens[i], i);
        }
        x.men(0x4235632411111111L, 0, 0);
        x.men(0x77777777A89BC98AL, 0, 3);
        x.men(0xC000000000000000L, 4, 0);
        x.back(true);
        x.next(0, 480, 20, false, false);
        x.men(Boards.EMPTY, 4);
    }

    private static void outOfBounds() {
        Probe x = new Probe("out of bounds");
        int[] far = {-1, 4, 640, 2560, 1 << 30, -(1 << 30), Integer.MIN_VALUE, Integer.MAX_VALUE};
        x.men(Probe.OUT_OF_BOUNDS, 0, 0);
        x.board(Boards.ROOKS);
        x.begin(0, 480, 20, false, 0);
        x.next(0, 481, 20, false, false);
        String before = x.everything();
        for (int wrong : far) {
            x.men(Probe.OUT_OF_BOUNDS, wrong, 0);
            x.men(Probe.OUT_OF_BOUNDS, 0, wrong);
            x.men(Probe.OUT_OF_BOUNDS, wrong, wrong);
        }
        x.men(Probe.OUT_OF_BOUNDS, 2, 0);
        x.men(Probe.OUT_OF_BOUNDS, 1, 4);
        x.men(Probe.OUT_OF_BOUNDS, 1, -1);
        Probe.same("after men that throws", before, x.everything());
        x.back(true);
        x.men(Probe.OUT_OF_BOUNDS, 1, 0);
        x.men(Boards.ROOKS, 0);
    }
}
