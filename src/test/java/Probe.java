import java.util.function.Supplier;

/** One new arbiter; each call names the answer that is due, and a wrong one is printed and counted. */
final class Probe {
    static final String ILLEGAL_STATE = "throws.IllegalStateException";
    static final String ILLEGAL_ARGUMENT = "throws.IllegalArgumentException";
    static final String OUT_OF_BOUNDS = "throws.IndexOutOfBoundsException";

    private static final int MOST_CALLS = 512;
    private static int wrong = 0;

    private final GameArbiter arbiter = new GameArbiter();
    private final String name;
    private int calls = 0;

    Probe(String name) {
        this.name = name;
    }

    /** Ends a test: with exit code 1 if an answer was wrong. */
    static void end() {
        if (wrong != 0) {
            System.out.println(wrong + " wrong");
            System.exit(1);
        }
    }

    static void same(String what, Object due, Object got) {
        if (!String.valueOf(due).equals(String.valueOf(got))) {
            wrong++;
            System.out.println(what + " answered " + got + ", due is " + due);
        }
    }

    void board(String fen) {
        board(Boards.parts(fen));
    }

    void board(long[] parts) {
        for (int part = 0; part < 4; part++) {
            squares(true, part, parts[part]);
        }
    }

    void squares(boolean due, int part, long men) {
        check(due, "squares(" + part + ", " + men + ")", () -> arbiter.squares(part, men));
    }

    void begin(Object due, int state, int moves, boolean check, int clock) {
        check(due, "begin(" + state + ", " + moves + ", " + check + ", " + clock + ")",
                () -> arbiter.begin(state, moves, check, clock));
    }

    void next(Object due, int state, int moves, boolean check, boolean irreversible) {
        check(due, "next(" + state + ", " + moves + ", " + check + ", " + irreversible + ")",
                () -> arbiter.next(state, moves, check, irreversible));
    }

    void back(boolean due) {
        check(due, "back()", arbiter::back);
    }

    void verdict(int due) {
        check(due, "verdict()", arbiter::verdict);
    }

    void of(Object due, int i, int w) {
        check(due, "of(" + i + ", " + w + ")", () -> arbiter.of(i, w));
    }

    /** All eight facts of a position, in the order of w. */
    void facts(int i, int... due) {
        for (int w = 0; w < due.length; w++) {
            of(due[w], i, w);
        }
    }

    void men(Object due, int i, int part) {
        check(due, "men(" + i + ", " + part + ")", () -> arbiter.men(i, part));
    }

    void men(String fen, int i) {
        long[] parts = Boards.parts(fen);
        for (int part = 0; part < 4; part++) {
            men(parts[part], i, part);
        }
    }

    void times(Object due, int state) {
        check(due, "times(" + state + ")", () -> arbiter.times(state));
    }

    void look(int due, int which) {
        check(due, "look(" + which + ")", () -> arbiter.look(which));
    }

    void looks(int positions, int different, int count, int clock) {
        look(positions, 0);
        look(different, 1);
        look(count, 2);
        look(clock, 3);
    }

    /** All that can be asked of the game and of the squares given, as one text. */
    String everything() {
        StringBuilder all = new StringBuilder();
        int positions = arbiter.look(0);
        for (int which = 0; which < 4; which++) {
            all.append(arbiter.look(which)).append(' ');
        }
        all.append(arbiter.verdict());
        for (int i = 0; i < positions; i++) {
            all.append('\n').append(i).append(':');
            append(all, i);
        }
        counted(6 + 14 * positions);
        return all.toString();
    }

    /** What the arbiter answers when the game goes on and is taken back, as one text. */
    String goingOn() {
        return behind(() -> arbiter.next(480, 20, false, false)) + behind(() -> arbiter.next(481, 20, false, true))
                + behind(arbiter::back) + behind(arbiter::back);
    }

    /** What the arbiter answers when a new game begins, as one text; no call before it may hide what was changed. */
    String beginningAnew() {
        return behind(() -> arbiter.begin(480, 20, false, 99)) + behind(() -> arbiter.next(480, 20, false, false));
    }

    private String behind(Supplier<Object> call) {
        counted(1);
        return answer(call) + '\n' + everything() + '\n';
    }

    private void append(StringBuilder all, int i) {
        for (int w = 0; w < 8; w++) {
            all.append(' ').append(arbiter.of(i, w));
        }
        for (int part = 0; part < 4; part++) {
            all.append(' ').append(arbiter.men(i, part));
        }
        all.append(" times ").append(arbiter.times(arbiter.of(i, 5)));
    }

    private void check(Object due, String call, Supplier<Object> asked) {
        counted(1);
        same(name + ", call " + calls + ": " + call, due, answer(asked));
    }

    /** Behind its 512th call an object's answers are free, so a test that asks there would prove nothing. */
    private void counted(int more) {
        calls += more;
        if (calls > MOST_CALLS) {
            same(name + ": calls", "at most " + MOST_CALLS, calls);
        }
    }

    /** The answer as a text; a subclass, such as the machine itself throws, has a name of its own and so is wrong. */
    static String answer(Supplier<Object> asked) {
        try {
            return String.valueOf(asked.get());
        } catch (RuntimeException e) {
            return "throws." + e.getClass().getSimpleName();
        }
    }
}
