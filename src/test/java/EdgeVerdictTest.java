/** "The VERDICT, the first one that holds": each threshold on both its sides, each order, and what comes behind. */
public final class EdgeVerdictTest {
    public static void main(String[] args) {
        noMovesAtAll();
        countOfFive();
        clockOfAHundredAndFifty();
        countOfThree();
        clockOfAHundred();
        claimForBoth();
        mateAndStalemateGoFirst();
        deadGoesBeforeTheClock();
        drawsGoBeforeClaims();
        verdictOfTheLastOne();
        behindAnEnd();
        behindAnythingElse();
        Probe.end();
    }

    private static void noMovesAtAll() {
        Probe x = rooks("\"1 mate (no moves, check); 2 stalemate (no moves, no check)\"");
        x.begin(1, 480, 0, true, 0);
        x.begin(2, 480, 0, false, 0);
        x.begin(0, 480, 1, true, 0);
        x.begin(0, 480, 1, false, 0);
        x.next(1, 481, 0, true, true);
        x.back(true);
        x.next(2, 481, 0, false, true);
        x.back(true);
        x.next(0, 481, 1, true, true);
        x.next(0, 482, 1, false, true);
    }

    private static void countOfFive() {
        Probe x = rooks("\"4 the COUNT is 5 or more\"");
        repeat(x, 0, 0, 0, 6, 6, 4);
        x.of(5, 4, 0);
        x.of(4, 3, 0);
    }

    private static void clockOfAHundredAndFifty() {
        Probe x = rooks("\"5 the CLOCK is 150 or more\"");
        x.begin(7, 480, 20, false, 149);
        x.begin(5, 480, 20, false, 150);
        x.begin(5, 480, 20, false, 151);
        x.begin(5, 480, 20, false, 1000);
        x.begin(7, 480, 20, false, 148);
        x.next(7, 481, 20, false, false);
        x.next(5, 482, 20, false, false);
        x.of(150, 2, 1);
        x.back(true);
        x.next(0, 482, 20, false, true);
        x.of(0, 2, 1);
    }

    private static void countOfThree() {
        Probe x = rooks("\"6 .. a draw can be CLAIMED as its COUNT is 3 or more\"");
        x.begin(0, 480, 20, false, 0);
        x.next(0, 480, 20, false, true);
        x.verdict(0);
        x.next(6, 480, 20, false, true);
        x.verdict(6);
        x.next(6, 480, 20, false, true);
        x.verdict(6);
        x.next(0, 481, 20, false, true);
        x.verdict(0);
    }

    private static void clockOfAHundred() {
        Probe x = rooks("\"7 likewise, as its CLOCK is 100 or more\"");
        x.begin(0, 480, 20, false, 99);
        x.begin(7, 480, 20, false, 100);
        x.begin(7, 480, 20, false, 101);
        x.begin(0, 480, 20, false, 98);
        x.next(0, 481, 20, false, false);
        x.next(7, 482, 20, false, false);
        x.next(7, 483, 20, false, false);
        x.next(0, 484, 20, false, true);
        x.next(0, 485, 20, false, false);
        x.of(0, 4, 1);
        x.of(1, 5, 1);
    }

    /** The row's last verdict stands at: a count and a clock, one or both of them at the edge. */
    private static void claimForBoth() {
        repeat(rooks("\"8 for both\": 2 and 100"), 99, 0, 7);
        repeat(rooks("\"8 for both\": 3 and 99"), 97, 0, 0, 6);
        repeat(rooks("\"8 for both\": 3 and 100"), 98, 0, 0, 8);
        repeat(rooks("\"8 for both\": 4 and 99"), 96, 0, 0, 6, 6);
        repeat(rooks("\"8 for both\": 4 and 100"), 97, 0, 0, 6, 8);
        repeat(rooks("\"8 for both\": 3 and 149"), 147, 7, 7, 8);
        repeat(rooks("\"8 for both\": 4 and 149"), 146, 7, 7, 8, 8);
        repeat(rooks("\"8 for both\": 2 and 149"), 148, 7, 7);
    }

    private static void mateAndStalemateGoFirst() {
        Probe x = new Probe("mate and stalemate before all others");
        x.board(Boards.KINGS);
        x.begin(1, 480, 0, true, 0);
        x.begin(2, 480, 0, false, 0);
        x.begin(1, 480, 0, true, 150);
        x.begin(2, 480, 0, false, 150);
        x.board(Boards.ROOKS);
        x.begin(1, 480, 0, true, 150);
        x.begin(2, 480, 0, false, 150);
        x.begin(1, 480, 0, true, 100);
        x.begin(2, 480, 0, false, 100);
        repeat(x, 146, 7, 7, 8, 8);
        x.next(1, 480, 0, true, false);
        x.of(5, 4, 0);
        x.of(150, 4, 1);
        x.back(true);
        x.next(2, 480, 0, false, false);
        x.back(true);
        x.back(true);
        x.next(1, 480, 0, true, false);
        x.back(true);
        x.next(2, 480, 0, false, true);
    }

    private static void deadGoesBeforeTheClock() {
        Probe x = new Probe("dead before the clock");
        x.board(Boards.KINGS);
        x.begin(3, 480, 1, true, 0);
        x.begin(3, 480, 1, false, 100);
        x.begin(3, 480, 1, false, 149);
        x.begin(3, 480, 1, false, 150);
        x.begin(3, 480, 300, true, 1000);
    }

    private static void drawsGoBeforeClaims() {
        repeat(rooks("5 and 99"), 95, 0, 0, 6, 6, 4);
        repeat(rooks("5 and 100"), 96, 0, 0, 6, 6, 4);
        repeat(rooks("5 and 149"), 145, 7, 7, 8, 8, 4);
        repeat(rooks("5 and 150"), 146, 7, 7, 8, 8, 4);
        repeat(rooks("4 and 150"), 147, 7, 7, 8, 5);
        repeat(rooks("3 and 150"), 148, 7, 7, 5);
        repeat(rooks("2 and 150"), 149, 7, 5);
    }

    private static void verdictOfTheLastOne() {
        Probe x = rooks("\"The verdict on the last position; NONE without a game\"");
        x.verdict(GameArbiter.NONE);
        repeat(x, 0, 0, 0, 6, 6, 4);
        int[] due = {4, 6, 6, 0, 0};
        for (int verdict : due) {
            x.verdict(verdict);
            x.back(true);
        }
        x.verdict(GameArbiter.NONE);
        x.back(false);
        x.verdict(GameArbiter.NONE);
    }

    private static void behindAnEnd() {
        Probe x = rooks("\"Behind a verdict of 1 to 5 no position can be told\"");
        x.begin(1, 480, 0, true, 0);
        refusesAnother(x, 1);
        x.begin(2, 480, 0, false, 0);
        refusesAnother(x, 2);
        x.begin(5, 480, 20, false, 150);
        refusesAnother(x, 5);
        repeat(x, 0, 0, 0, 6, 6, 4);
        refusesAnother(x, 4);
        x.board(Boards.KINGS);
        x.begin(3, 480, 20, false, 0);
        x.board(Boards.ROOKS);
        refusesAnother(x, 3);
        x.begin(0, 480, 20, false, 0);
        x.next(0, 481, 20, false, false);
    }

    private static void refusesAnother(Probe x, int verdict) {
        x.next(Probe.ILLEGAL_STATE, 481, 20, false, true);
        x.next(Probe.ILLEGAL_STATE, 481, 20, false, false);
        x.verdict(verdict);
    }

    private static void behindAnythingElse() {
        Probe x = rooks("behind 0, 6, 7 and 8 a position can be told");
        repeat(x, 97, 0, 0, 6, 8);
        x.next(7, 481, 20, false, false);
        x.next(7, 482, 20, false, false);
        x.next(0, 483, 20, false, true);
        x.next(0, 484, 20, false, false);
    }

    private static Probe rooks(String name) {
        Probe x = new Probe(name);
        x.board(Boards.ROOKS);
        return x;
    }

    /** One position over and over, the clock running on from where it begins. */
    private static void repeat(Probe x, int clock, int... verdicts) {
        x.begin(verdicts[0], 480, 20, false, clock);
        for (int i = 1; i < verdicts.length; i++) {
            x.next(verdicts[i], 480, 20, false, false);
        }
    }
}
