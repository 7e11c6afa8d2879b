import java.util.ArrayList;
import java.util.List;
import java.util.function.Consumer;

/**
 * "What throws, or answers false, changes nothing. Of several exceptions that hold the first one listed is thrown."
 * Every refused call is made in every situation where it is refused; behind it the arbiter is compared with a twin
 * that was left alone: by all that can be asked, and by what it answers when the game goes on.
 */
public final class EdgeRefusalTest {
    /** A way to a state of the arbiter; whether there is a game, and whether a further position can be told. */
    private record Situation(String name, boolean game, boolean open, Consumer<Probe> way) {
        Probe reached(String probe) {
            Probe x = new Probe(probe);
            x.board(Boards.ROOKS);
            way.accept(x);
            return x;
        }
    }

    private record Call(String name, Consumer<Probe> made) {
    }

    private static final List<Situation> SITUATIONS = List.of(
            new Situation("a new object", false, false, x -> { }),
            new Situation("the first one taken back", false, false, x -> {
                repeat(x, 0, 0);
                x.back(true);
            }),
            new Situation("a first position", true, true, x -> repeat(x, 40, 0)),
            new Situation("verdict 6", true, true, x -> repeat(x, 40, 0, 0, 6)),
            new Situation("verdict 7", true, true, x -> repeat(x, 100, 7)),
            new Situation("verdict 8", true, true, x -> repeat(x, 98, 0, 0, 8)),
            new Situation("one taken back", true, true, x -> {
                repeat(x, 40, 0, 0, 6);
                x.back(true);
            }),
            new Situation("other squares given", true, true, x -> {
                repeat(x, 40, 0, 0);
                x.board(Boards.START);
            }),
            new Situation("mate", true, false, x -> x.begin(1, 480, 0, true, 3)),
            new Situation("stalemate", true, false, x -> x.begin(2, 480, 0, false, 3)),
            new Situation("dead", true, false, x -> {
                repeat(x, 40, 0, 0);
                x.board(Boards.KINGS);
                x.next(3, 480, 20, false, true);
            }),
            new Situation("a count of 5", true, false, x -> repeat(x, 40, 0, 0, 6, 6, 4)),
            new Situation("a clock of 150", true, false, x -> repeat(x, 149, 7, 5)));

    private static final int[] WRONG_STATES = {-1, 256, 479, 512, Integer.MIN_VALUE};
    private static final int[] WRONG_MOVES = {-1, 301};
    private static final int[] WRONG_CLOCKS = {-1, 1001};

    public static void main(String[] args) {
        for (Situation situation : SITUATIONS) {
            List<Call> calls = refused(situation);
            for (Call call : calls) {
                changesNothing(situation, call.name, List.of(call));
            }
            changesNothing(situation, "all refused calls", calls);
        }
        Probe.end();
    }

    private static void changesNothing(Situation situation, String name, List<Call> calls) {
        String behind = situation.name + ", behind " + name;
        Probe one = troubled(situation, behind, calls);
        Probe.same(behind, situation.reached("left alone").everything(), one.everything());
        Probe.same(behind + ", going on", situation.reached("left alone").goingOn(), one.goingOn());
        Probe other = troubled(situation, behind, calls);
        Probe.same(behind + ", anew", situation.reached("left alone").beginningAnew(), other.beginningAnew());
    }

    private static Probe troubled(Situation situation, String name, List<Call> calls) {
        Probe x = situation.reached(name);
        for (Call call : calls) {
            call.made.accept(x);
        }
        return x;
    }

    private static List<Call> refused(Situation situation) {
        List<Call> calls = new ArrayList<>();
        addSquares(calls);
        addBegin(calls);
        addNext(calls, situation);
        addAsked(calls);
        if (!situation.game) {
            calls.add(new Call("back", x -> x.back(false)));
        }
        return calls;
    }

    private static void addSquares(List<Call> calls) {
        calls.add(new Call("squares of part -1", x -> x.squares(false, -1, 1L)));
        calls.add(new Call("squares of part 4", x -> x.squares(false, 4, 1L)));
        for (int i = 0; i <= 3; i++) {
            int part = i;
            calls.add(new Call("the first square's man 13", x -> x.squares(false, part, 0xD111111111111111L)));
            calls.add(new Call("the last square's man 13", x -> x.squares(false, part, 0x111111111111111DL)));
        }
    }

    private static void addBegin(List<Call> calls) {
        for (int state : WRONG_STATES) {
            calls.add(begin(state, 20, 0));
            calls.add(begin(state, 301, 1001));
        }
        for (int moves : WRONG_MOVES) {
            calls.add(begin(480, moves, 0));
        }
        for (int clock : WRONG_CLOCKS) {
            calls.add(begin(480, 20, clock));
        }
    }

    private static Call begin(int state, int moves, int clock) {
        return new Call("begin(" + state + ", " + moves + ", .., " + clock + ")",
                x -> x.begin(Probe.ILLEGAL_ARGUMENT, state, moves, true, clock));
    }

    /** Where no further position can be told, that is the exception, whatever the arguments are. */
    private static void addNext(List<Call> calls, Situation situation) {
        String due = situation.open ? Probe.ILLEGAL_ARGUMENT : Probe.ILLEGAL_STATE;
        for (int state : WRONG_STATES) {
            calls.add(next(due, state, 20, false));
            calls.add(next(due, state, 301, true));
        }
        for (int moves : WRONG_MOVES) {
            calls.add(next(due, 480, moves, false));
            calls.add(next(due, 480, moves, true));
        }
        if (!situation.open) {
            calls.add(next(due, 480, 20, false));
            calls.add(next(due, 481, 0, true));
        }
    }

    private static Call next(String due, int state, int moves, boolean irreversible) {
        return new Call("next(" + state + ", " + moves + ", .., " + irreversible + ")",
                x -> x.next(due, state, moves, true, irreversible));
    }

    private static void addAsked(List<Call> calls) {
        calls.add(new Call("of(-1, 0)", x -> x.of(Probe.OUT_OF_BOUNDS, -1, 0)));
        calls.add(new Call("of(640, 0)", x -> x.of(Probe.OUT_OF_BOUNDS, 640, 0)));
        calls.add(new Call("of(0, 8)", x -> x.of(Probe.OUT_OF_BOUNDS, 0, 8)));
        calls.add(new Call("of(0, -1)", x -> x.of(Probe.OUT_OF_BOUNDS, 0, -1)));
        calls.add(new Call("men(-1, 0)", x -> x.men(Probe.OUT_OF_BOUNDS, -1, 0)));
        calls.add(new Call("men(640, 0)", x -> x.men(Probe.OUT_OF_BOUNDS, 640, 0)));
        calls.add(new Call("men(0, 4)", x -> x.men(Probe.OUT_OF_BOUNDS, 0, 4)));
        calls.add(new Call("men(0, -1)", x -> x.men(Probe.OUT_OF_BOUNDS, 0, -1)));
        calls.add(new Call("look(4)", x -> x.look(GameArbiter.NONE, 4)));
        calls.add(new Call("look(-1)", x -> x.look(GameArbiter.NONE, -1)));
        for (int state : WRONG_STATES) {
            calls.add(new Call("times(" + state + ")", x -> x.times(Probe.ILLEGAL_ARGUMENT, state)));
        }
    }

    /** One position over and over, the clock running on from where it begins. */
    private static void repeat(Probe x, int clock, int... verdicts) {
        x.begin(verdicts[0], 480, 20, false, clock);
        for (int i = 1; i < verdicts.length; i++) {
            x.next(verdicts[i], 480, 20, false, false);
        }
    }
}
