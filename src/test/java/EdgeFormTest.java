import java.util.ArrayList;
import java.util.List;

/** The edges of the arguments by which a position is told: the last value taken, the first one refused. */
public final class EdgeFormTest {
    private static final long[] LEGAL = {
        0L, 1L, 12L, 0xC000000000000000L, 0x8000000000000000L, 0xCCCCCCCCCCCCCCCCL, 0x0CCCCCCCCCCCCCCCL,
    };
    private static final long[] TOO_HIGH = {
        13L, 15L, 0xD000000000000000L, 0xF000000000000000L, -1L, Long.MAX_VALUE, 0xCCCCCCCDCCCCCCCCL,
        0xCCCCCCCCCCCCCCCDL, 0xDCCCCCCCCCCCCCCCL, 0x00000000D0000000L, 0x0000000D00000000L,
    };

    public static void main(String[] args) {
        partsAreNoughtToThree();
        noManIsAboveTwelve();
        everySquareIsLookedAt();
        firstSquareIsInTheHighestBits();
        wrongPartAndWrongManAtOnce();
        lastGivenHolds();
        statesThatHaveTheForm();
        statesThatHaveNot();
        movesAreUpToThreeHundred();
        clockIsUpToAThousand();
        severalWrongAtOnce();
        Probe.end();
    }

    private static void partsAreNoughtToThree() {
        Probe x = new Probe("squares: \"part 0 .. 3\"");
        for (int part = 0; part <= 3; part++) {
            x.squares(true, part, 1L + part);
        }
        int[] wrong = {-1, 4, 5, -4, 16, 64, 1 << 30, Integer.MIN_VALUE, Integer.MAX_VALUE};
        for (int part : wrong) {
            x.squares(false, part, 0L);
        }
        x.begin(0, 480, 20, false, 0);
        for (int part = 0; part <= 3; part++) {
            x.men(1L + part, 0, part);
        }
    }

    private static void noManIsAboveTwelve() {
        Probe x = new Probe("squares: \"false if .. a man is above 12\"");
        for (int part = 0; part <= 3; part++) {
            for (long men : LEGAL) {
                x.squares(true, part, men);
                x.begin(0, 480, 20, false, 0);
                x.men(men, 0, part);
            }
            for (long men : TOO_HIGH) {
                x.squares(false, part, men);
            }
        }
    }

    private static void everySquareIsLookedAt() {
        Probe x = new Probe("squares: \"a man is above 12\", on each square");
        for (int part = 0; part <= 3; part++) {
            for (int square = 0; square < 16; square++) {
                x.squares(true, part, 12L << 4 * square);
                x.squares(false, part, 13L << 4 * square);
            }
        }
    }

    /** Seen by the colours of two bishops: a1 and h8 are of one colour, a1 and a8 are not. */
    private static void firstSquareIsInTheHighestBits() {
        Probe x = new Probe("\"the first one in the highest four bits\"");
        x.squares(true, 0, 0x30000C6000000000L);
        x.squares(true, 3, 0x0000000000000009L);
        x.begin(3, 480, 20, false, 0);
        x.squares(true, 3, 0x0000000090000000L);
        x.begin(0, 480, 20, false, 0);
        x.squares(true, 3, 0x9000000000000000L);
        x.begin(3, 480, 20, false, 0);
        x.squares(true, 3, 0L);
        x.squares(true, 1, 0x9000000000000000L);
        x.begin(3, 480, 20, false, 0);
        x.squares(true, 1, 0x0900000000000000L);
        x.begin(0, 480, 20, false, 0);
    }

    private static void wrongPartAndWrongManAtOnce() {
        Probe x = new Probe("squares: wrong part and wrong man");
        x.squares(false, 4, -1L);
        x.squares(false, -1, 13L);
    }

    private static void lastGivenHolds() {
        Probe x = new Probe("squares: given twice, and then refused");
        x.squares(true, 2, 0x1111111111111111L);
        x.squares(true, 2, 0x2222222222222222L);
        x.squares(false, 2, 0x333333333333333DL);
        x.begin(0, 480, 20, false, 0);
        x.men(0x2222222222222222L, 0, 2);
        x.of(16, 0, 7);
    }

    private static void statesThatHaveTheForm() {
        int[] passants = {0, 1, 2, 3, 4, 5, 6, 7, 15};
        for (int passant : passants) {
            Probe x = new Probe("\"PASSANT, a file 0 .. 7 .. or none (15)\": " + passant);
            x.begin(0, 480, 20, false, 0);
            for (int rights = 0; rights <= 15; rights++) {
                isTaken(x, Boards.state(0, rights, passant));
                isTaken(x, Boards.state(1, rights, passant));
            }
        }
    }

    private static void isTaken(Probe x, int state) {
        x.begin(0, 481, 20, false, 0);
        x.next(0, state, 20, false, false);
        x.of(state, 1, 5);
        x.begin(0, state, 20, false, 0);
        x.of(state, 0, 5);
        x.times(1, state);
    }

    private static void statesThatHaveNot() {
        for (int state : statesWithoutTheForm()) {
            Probe x = new Probe("\"PASSANT 8 .. 14, or a bit beyond\": " + state);
            x.times(Probe.ILLEGAL_ARGUMENT, state);
            x.begin(Probe.ILLEGAL_ARGUMENT, state, 20, false, 0);
            x.verdict(GameArbiter.NONE);
            x.begin(0, 480, 20, false, 0);
            x.next(Probe.ILLEGAL_ARGUMENT, state, 20, false, false);
            x.times(Probe.ILLEGAL_ARGUMENT, state);
            x.begin(Probe.ILLEGAL_ARGUMENT, state, 20, false, 0);
            x.looks(1, 1, 1, 0);
        }
    }

    private static List<Integer> statesWithoutTheForm() {
        List<Integer> states = new ArrayList<>(List.of(-1, -32, -480, Integer.MIN_VALUE, Integer.MAX_VALUE));
        for (int passant = 8; passant <= 14; passant++) {
            states.add(Boards.state(0, 0, passant));
            states.add(Boards.state(1, 15, passant));
        }
        for (int bit = 9; bit <= 31; bit++) {
            states.add(1 << bit);
            states.add(1 << bit | 480);
            states.add(1 << bit | 511);
        }
        return states;
    }

    private static void movesAreUpToThreeHundred() {
        Probe x = new Probe("\"moves is not 0 .. 300\"");
        int[] wrong = {-1, 301, 302, -300, 65536, Integer.MIN_VALUE, Integer.MAX_VALUE};
        for (int moves : wrong) {
            x.begin(Probe.ILLEGAL_ARGUMENT, 480, moves, false, 0);
            x.begin(Probe.ILLEGAL_ARGUMENT, 480, moves, true, 0);
        }
        x.verdict(GameArbiter.NONE);
        x.begin(0, 480, 300, false, 0);
        for (int moves : wrong) {
            x.next(Probe.ILLEGAL_ARGUMENT, 481, moves, false, false);
            x.next(Probe.ILLEGAL_ARGUMENT, 481, moves, true, true);
        }
        x.next(0, 481, 300, true, false);
        x.next(0, 482, 1, true, false);
        x.next(2, 483, 0, false, false);
        x.begin(1, 480, 0, true, 0);
    }

    private static void clockIsUpToAThousand() {
        Probe x = new Probe("\"clock not 0 .. 1000\"");
        int[] wrong = {-1, 1001, 1002, -1000, 65536, Integer.MIN_VALUE, Integer.MAX_VALUE};
        for (int clock : wrong) {
            x.begin(Probe.ILLEGAL_ARGUMENT, 480, 20, false, clock);
        }
        x.verdict(GameArbiter.NONE);
        int[] right = {0, 1, 999, 1000};
        for (int clock : right) {
            x.begin(clock < 150 ? 0 : 5, 480, 20, false, clock);
            x.of(clock, 0, 1);
            x.look(clock, 3);
        }
        for (int clock : wrong) {
            x.begin(Probe.ILLEGAL_ARGUMENT, 480, 20, false, clock);
        }
        x.looks(1, 1, 1, 1000);
    }

    private static void severalWrongAtOnce() {
        Probe x = new Probe("begin: several arguments wrong");
        x.begin(Probe.ILLEGAL_ARGUMENT, 512, 301, false, 0);
        x.begin(Probe.ILLEGAL_ARGUMENT, 512, 20, false, -1);
        x.begin(Probe.ILLEGAL_ARGUMENT, 480, -1, false, 1001);
        x.begin(Probe.ILLEGAL_ARGUMENT, -1, -1, true, -1);
        x.begin(0, 480, 20, false, 0);
        x.next(Probe.ILLEGAL_ARGUMENT, 256, 301, false, false);
        x.looks(1, 1, 1, 0);
    }
}
