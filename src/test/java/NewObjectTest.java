/** Promise 1: a new object has no game, and the next position's squares are all empty. */
public final class NewObjectTest {
    public static void main(String[] args) {
        Probe.same("NONE", -1, GameArbiter.NONE);
        noGame();
        emptySquares();
        objectsAreApart();
        Probe.end();
    }

    private static void noGame() {
        Probe x = new Probe("no game");
        x.looks(0, 0, 0, 0);
        x.look(GameArbiter.NONE, 4);
        x.verdict(GameArbiter.NONE);
        x.back(false);
        x.of(Probe.OUT_OF_BOUNDS, 0, 0);
        x.men(Probe.OUT_OF_BOUNDS, 0, 0);
        x.next(Probe.ILLEGAL_STATE, 480, 20, false, false);
        x.times(0, 480);
        x.looks(0, 0, 0, 0);
    }

    private static void emptySquares() {
        Probe x = new Probe("empty squares");
        x.begin(0, 480, 20, false, 0);
        x.men(Boards.EMPTY, 0);
        x.facts(0, 1, 0, 0, 0, -1, 480, 0, 0);
        x.times(1, 480);
    }

    private static void objectsAreApart() {
        Probe x = new Probe("one of two");
        Probe y = new Probe("the other of two");
        x.board(Boards.START);
        x.begin(0, 510, 20, false, 3);
        y.verdict(GameArbiter.NONE);
        y.begin(0, 480, 20, false, 0);
        y.men(Boards.EMPTY, 0);
        x.men(Boards.START, 0);
    }
}
