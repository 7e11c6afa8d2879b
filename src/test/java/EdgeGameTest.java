import java.util.function.Consumer;
import java.util.function.Function;

/** The edges of the row: no game, the first position, the last one taken back, a full row, the last call. */
public final class EdgeGameTest {
    private static final int CALLS = 512;
    private static final int MOST_POSITIONS = 640;
    /** So many states have the form; a row that goes through them all does so twice before a count is 3. */
    private static final int STATES = 288;

    public static void main(String[] args) {
        newObject();
        allSquaresAreEmpty();
        firstPosition();
        lastOneTakenBack();
        takenBackIsForgotten();
        backFromEachEnd();
        newGameBehindAnything();
        squaresOutliveTheGame();
        clockOfAFurtherOne();
        countUpToIt();
        sameOnlyIfAllIs();
        rowOf640();
        lastCalls();
        Probe.end();
    }

    private static void newObject() {
        Probe x = new Probe("\"No game\"");
        withoutAGame(x);
        withoutAGame(x);
    }

    private static void withoutAGame(Probe x) {
        x.verdict(GameArbiter.NONE);
        x.looks(0, 0, 0, 0);
        x.look(GameArbiter.NONE, 4);
        x.look(GameArbiter.NONE, -1);
        x.back(false);
        x.next(Probe.ILLEGAL_STATE, 480, 20, false, false);
        x.next(Probe.ILLEGAL_STATE, 480, 20, false, true);
        for (int w = 0; w <= 7; w++) {
            x.of(Probe.OUT_OF_BOUNDS, 0, w);
        }
        for (int part = 0; part <= 3; part++) {
            x.men(Probe.OUT_OF_BOUNDS, 0, part);
        }
        x.times(0, 480);
        x.times(Probe.ILLEGAL_ARGUMENT, 512);
    }

    private static void allSquaresAreEmpty() {
        Probe x = new Probe("\"the next position's squares are all empty\"");
        x.begin(0, 480, 20, false, 0);
        x.men(Boards.EMPTY, 0);
        x.of(0, 0, 7);
        x.of(0, 0, 6);
        Probe y = new Probe("squares given for one part only");
        y.squares(true, 1, 0x5000000000000000L);
        y.begin(0, 480, 20, false, 0);
        y.men("8/8/8/8/8/Q7/8/8", 0);
        y.of(1, 0, 7);
    }

    private static void firstPosition() {
        Probe x = new Probe("\"A new game with the position whose squares were given\"");
        x.board(Boards.START);
        x.begin(0, 510, 20, false, 42);
        x.facts(0, 1, 42, 0, 0, GameArbiter.NONE, 510, 0, 32);
        x.men(Boards.START, 0);
        x.looks(1, 1, 1, 42);
        x.times(1, 510);
        x.of(Probe.OUT_OF_BOUNDS, 1, 0);
        x.men(Probe.OUT_OF_BOUNDS, 1, 0);
    }

    private static void lastOneTakenBack() {
        Probe x = new Probe("\"the first one, too: then there is no game\"");
        x.begin(0, 480, 20, false, 9);
        x.back(true);
        withoutAGame(x);
        x.begin(0, 480, 20, false, 9);
        x.next(0, 480, 20, false, false);
        x.back(true);
        x.verdict(0);
        x.looks(1, 1, 1, 9);
        x.back(true);
        withoutAGame(x);
        x.begin(0, 480, 20, false, 3);
        x.facts(0, 1, 3, 0, 0, GameArbiter.NONE, 480, 0, 0);
        x.looks(1, 1, 1, 3);
    }

    private static void takenBackIsForgotten() {
        Probe x = new Probe("\"The last position of the game is taken back\"");
        x.begin(0, 480, 20, false, 97);
        x.next(0, 481, 20, false, false);
        x.next(0, 480, 20, false, false);
        x.next(7, 480 + 2, 20, false, false);
        x.next(8, 480, 20, false, false);
        x.looks(5, 3, 3, 101);
        x.back(true);
        x.looks(4, 3, 2, 100);
        x.of(Probe.OUT_OF_BOUNDS, 4, 0);
        x.men(Probe.OUT_OF_BOUNDS, 4, 0);
        x.back(true);
        x.looks(3, 2, 2, 99);
        x.times(2, 480);
        x.times(0, 482);
        x.next(8, 480, 20, false, false);
        x.facts(3, 3, 100, 8, 0, 2, 480, 0, 0);
        x.back(true);
        x.back(true);
        x.next(0, 480, 20, false, true);
        x.facts(2, 2, 0, 0, 0, 0, 480, 0, 0);
        x.looks(3, 2, 2, 98);
    }

    private static void backFromEachEnd() {
        Probe x = new Probe("back from a verdict of 1 to 3");
        x.board(Boards.ROOKS);
        x.begin(7, 480, 20, false, 147);
        goesOnBehind(x, y -> y.next(1, 481, 0, true, false));
        goesOnBehind(x, y -> y.next(2, 481, 0, false, false));
        goesOnBehind(x, y -> {
            y.board(Boards.KINGS);
            y.next(3, 481, 20, false, true);
            y.board(Boards.ROOKS);
        });
        backFromADraw();
    }

    private static void backFromADraw() {
        Probe x = new Probe("back from a verdict of 4 and 5");
        x.board(Boards.ROOKS);
        x.begin(7, 480, 20, false, 147);
        x.next(7, 480, 20, false, false);
        x.next(8, 480, 20, false, false);
        goesOnBehind(x, y -> y.next(5, 480, 20, false, false));
        x.next(6, 480, 20, false, true);
        goesOnBehind(x, y -> y.next(4, 480, 20, false, false));
    }

    private static void goesOnBehind(Probe x, Consumer<Probe> end) {
        String before = x.everything();
        end.accept(x);
        x.next(Probe.ILLEGAL_STATE, 482, 20, false, true);
        x.back(true);
        Probe.same("back from an end", before, x.everything());
        x.next(0, 483, 20, false, true);
        x.back(true);
        Probe.same("back from a further one", before, x.everything());
    }

    private static void newGameBehindAnything() {
        Probe x = new Probe("\"A new game\", whatever the last one was");
        int[][] ends = {{1, 0, 0}, {2, 0, 0}, {5, 20, 150}, {7, 20, 100}, {0, 20, 0}};
        for (int[] end : ends) {
            x.begin(end[0], 480, end[1], end[0] == 1, end[2]);
            x.begin(0, 480, 20, false, 5);
            x.facts(0, 1, 5, 0, 0, GameArbiter.NONE, 480, 0, 0);
            x.looks(1, 1, 1, 5);
            x.next(0, 480, 20, false, false);
            x.of(2, 1, 0);
        }
        x.begin(0, 481, 20, false, 0);
        x.times(0, 480);
        x.times(1, 481);
        x.back(true);
        x.back(false);
    }

    /** The document clears them nowhere, so those given last are those of every position told until others are. */
    private static void squaresOutliveTheGame() {
        Probe x = new Probe("squares behind begin, next and back");
        x.board(Boards.START);
        x.begin(0, 480, 20, false, 0);
        x.next(0, 480, 20, false, false);
        x.men(Boards.START, 1);
        x.back(true);
        x.times(1, 480);
        x.back(true);
        x.times(0, 480);
        x.begin(0, 480, 20, false, 0);
        x.men(Boards.START, 0);
    }

    private static void clockOfAFurtherOne() {
        Probe x = new Probe("\"CLOCK is 0 if it came by an IRREVERSIBLE move, else 1 more\"");
        int[] first = {0, 1, 99, 148};
        for (int clock : first) {
            x.begin(clock < 100 ? 0 : 7, 480, 20, false, clock);
            x.next(clock < 99 ? 0 : 7, 481, 20, false, false);
            x.of(clock + 1, 1, 1);
            x.next(0, 482, 20, false, true);
            x.of(0, 2, 1);
            x.next(0, 483, 20, false, true);
            x.of(0, 3, 1);
            x.next(0, 484, 20, false, false);
            x.of(1, 4, 1);
            x.of(clock, 0, 1);
            x.look(clock + 1, 3);
        }
    }

    private static void countUpToIt() {
        Probe x = new Probe("\"how many in the row up to it, itself among them\"");
        x.begin(0, 480, 20, false, 0);
        x.of(1, 0, 0);
        x.next(0, 481, 20, false, true);
        x.of(1, 1, 0);
        x.next(0, 480, 20, false, true);
        x.of(1, 0, 0);
        x.of(1, 1, 0);
        x.of(2, 2, 0);
        x.next(6, 480, 20, false, true);
        x.of(1, 0, 0);
        x.of(2, 2, 0);
        x.of(3, 3, 0);
    }

    /** Each bit of the state, each square and a man that is merely another one; moves, check and clock don't count. */
    private static void sameOnlyIfAllIs() {
        for (int bit = 0; bit < 8; bit++) {
            Probe x = new Probe("\"THE SAME if all of these are\": bit " + bit);
            x.begin(0, 0, 20, false, 0);
            x.next(0, 1 << bit, 20, false, false);
            x.facts(1, 1, 1, 0, 1, GameArbiter.NONE, 1 << bit, 0, 0);
        }
        for (int square = 0; square < 64; square++) {
            Probe x = new Probe("\"THE SAME if all of these are\": square " + square);
            long[] parts = Boards.parts(Boards.EMPTY);
            Boards.put(parts, square, 4);
            x.board(parts);
            x.begin(0, 480, 20, false, 0);
            Boards.put(parts, square, 5);
            x.board(parts);
            x.times(0, 480);
            x.next(0, 480, 20, false, false);
            x.facts(1, 1, 1, 0, 1, GameArbiter.NONE, 480, 0, 1);
        }
        Probe x = new Probe("\"THE SAME\": moves, check and clock don't count");
        x.begin(0, 480, 20, false, 0);
        x.next(0, 480, 300, true, true);
        x.facts(1, 2, 0, 0, 0, 0, 480, 0, 0);
    }

    /** It takes more calls than are promised, but the code must hold there too: the row has an end. */
    private static void rowOf640() {
        GameArbiter x = new GameArbiter();
        fill(x, MOST_POSITIONS - 1);
        Probe.same("\"it has 640 positions\": the 640th", 6, x.next(stateAt(0), 20, false, true));
        Probe.same("\"it has 640 positions\": look(0)", MOST_POSITIONS, x.look(0));
        refusesThe641st(x);
        Probe.same("\"it has 640 positions\": back", true, x.back());
        Probe.same("\"it has 640 positions\": the 640th again", 1, x.next(stateAt(0), 0, true, true));
        refusesThe641st(x);
        Probe.same("\"it has 640 positions\": begin", 0, x.begin(480, 20, false, 0));
        Probe.same("\"it has 640 positions\": look(0) behind begin", 1, x.look(0));
        Probe.same("\"it has 640 positions\": next behind begin", 0, x.next(481, 20, false, false));
    }

    private static void refusesThe641st(GameArbiter x) {
        Probe.same("the 641st", Probe.ILLEGAL_STATE, Probe.answer(() -> x.next(480, 20, false, true)));
        Probe.same("the 641st, with wrong state and moves", Probe.ILLEGAL_STATE,
                Probe.answer(() -> x.next(512, 301, false, true)));
        Probe.same("positions behind the 641st", MOST_POSITIONS, x.look(0));
        Probe.same("of position 640", Probe.OUT_OF_BOUNDS, Probe.answer(() -> x.of(MOST_POSITIONS, 0)));
        Probe.same("men of position 640", Probe.OUT_OF_BOUNDS, Probe.answer(() -> x.men(MOST_POSITIONS, 0)));
        Probe.same("state of position 639", stateAt(0), x.of(MOST_POSITIONS - 1, 5));
    }

    /** "at most 512 calls": the last of them, of each kind, answers as any other. */
    private static void lastCalls() {
        lastCall("next", 0, x -> x.next(stateAt(CALLS - 1), 20, false, true));
        lastCall("next that throws", Probe.ILLEGAL_ARGUMENT, x -> x.next(512, 20, false, true));
        lastCall("look(0)", CALLS - 1, x -> x.look(0));
        lastCall("look(1)", STATES, x -> x.look(1));
        lastCall("look(2)", 2, x -> x.look(2));
        lastCall("look(3)", 77, x -> x.look(3));
        lastCall("of the last", stateAt(CALLS - 2), x -> x.of(CALLS - 2, 5));
        lastCall("of none", Probe.OUT_OF_BOUNDS, x -> x.of(CALLS - 1, 5));
        lastCall("before the last", CALLS - 2 - STATES, x -> x.of(CALLS - 2, 4));
        lastCall("men", 0L, x -> x.men(CALLS - 2, 3));
        lastCall("times", 2, x -> x.times(stateAt(0)));
        lastCall("back", true, GameArbiter::back);
        lastCall("verdict", 0, GameArbiter::verdict);
        lastCall("begin", 7, x -> x.begin(480, 20, false, 100));
        lastCall("squares", false, x -> x.squares(4, 0L));
    }

    private static void lastCall(String name, Object due, Function<GameArbiter, Object> asked) {
        GameArbiter x = new GameArbiter();
        fill(x, CALLS - 1);
        Probe.same("the 512th call, " + name, due, Probe.answer(() -> asked.apply(x)));
    }

    private static void fill(GameArbiter x, int positions) {
        x.begin(stateAt(0), 20, false, 77);
        for (int i = 1; i < positions; i++) {
            int due = i < 2 * STATES ? 0 : 6;
            Probe.same("position " + i, due, x.next(stateAt(i), 20, false, true));
        }
    }

    private static int stateAt(int i) {
        int state = i % STATES;
        return state < 256 ? state : 480 + state - 256;
    }
}
