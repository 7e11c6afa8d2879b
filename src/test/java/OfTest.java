/** Promise 7: of. */
public final class OfTest {
    public static void main(String[] args) {
        everyFact();
        menCounted();
        outOfBounds();
        Probe.end();
    }

    private static void everyFact() {
        Probe x = new Probe("every fact");
        x.board(Boards.ROOKS);
        x.begin(0, 480, 20, false, 95);
        x.board(Boards.START);
        x.next(0, 511, 20, false, false);
        x.board(Boards.ROOKS);
        x.next(0, 480, 20, false, false);
        x.next(0, 481, 20, false, false);
        x.board(Boards.START);
        x.next(0, 511, 20, true, false);
        x.board(Boards.ROOKS);
        x.next(8, 480, 20, false, false);
        x.next(6, 480, 20, false, true);
        x.board(Boards.KINGS);
        x.next(3, 3 * 32 + 1, 5, false, false);
        x.facts(0, 1, 95, 0, 0, -1, 480, 0, 4);
        x.facts(1, 1, 96, 0, 1, -1, 511, 0, 32);
        x.facts(2, 2, 97, 0, 0, 0, 480, 0, 4);
        x.facts(3, 1, 98, 0, 3, -1, 481, 0, 4);
        x.facts(4, 2, 99, 0, 1, 1, 511, 0, 32);
        x.facts(5, 3, 100, 8, 0, 2, 480, 0, 4);
        x.facts(6, 4, 0, 6, 0, 5, 480, 0, 4);
        x.facts(7, 1, 1, 3, 7, -1, 97, 1, 2);
    }

    private static void menCounted() {
        Probe x = new Probe("men counted");
        long[] parts = new long[4];
        for (int square = 0; square < 64; square++) {
            Boards.put(parts, square, 1 + square % 12);
            x.squares(true, square / 16, parts[square / 16]);
            x.begin(0, 480, 20, false, 0);
            x.of(square + 1, 0, 7);
        }
    }

    private static void outOfBounds() {
        Probe x = new Probe("out of bounds");
        int[] far = {-1, Integer.MIN_VALUE, Integer.MAX_VALUE, 1 << 29, -(1 << 29), 640, 5120};
        x.of(Probe.OUT_OF_BOUNDS, 0, 0);
        x.board(Boards.ROOKS);
        x.begin(0, 480, 20, false, 0);
        x.next(0, 481, 20, false, false);
        String before = x.everything();
        for (int wrong : far) {
            x.of(Probe.OUT_OF_BOUNDS, wrong, 0);
            x.of(Probe.OUT_OF_BOUNDS, 0, wrong);
            x.of(Probe.OUT_OF_BOUNDS, wrong, wrong);
        }
        x.of(Probe.OUT_OF_BOUNDS, 0, 8);
        x.of(Probe.OUT_OF_BOUNDS, 1, 8);
        x.of(Probe.OUT_OF_BOUNDS, 1, -1);
        x.of(Probe.OUT_OF_BOUNDS, 2, 0);
        x.of(Probe.OUT_OF_BOUNDS, 2, 7);
        Probe.same("after of that throws", before, x.everything());
        x.back(true);
        x.of(Probe.OUT_OF_BOUNDS, 1, 0);
        x.of(480, 0, 5);
        x.back(true);
        x.of(Probe.OUT_OF_BOUNDS, 0, 5);
    }
}
