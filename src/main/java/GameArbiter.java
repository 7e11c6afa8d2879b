/** The arbiter of a game of chess: repetitions, the clock, dead positions, and what they mean for the game. */
public final class GameArbiter {
    public static final int NONE = -1;

    private static final int MOST_POSITIONS = 640;
    private static final int MOST_MOVES = 300;
    private static final int MOST_CLOCK = 1000;

    private static final int PARTS = 4;
    private static final int SQUARES_OF_A_PART = 16;
    private static final int SQUARES_OF_A_BOARD = 64;

    private static final int EMPTY = 0;
    private static final int WHITE_KNIGHT = 2;
    private static final int WHITE_BISHOP = 3;
    private static final int WHITE_KING = 6;
    private static final int BLACK_KNIGHT = 8;
    private static final int BLACK_BISHOP = 9;
    private static final int BLACK_KING = 12;
    private static final int HIGHEST_MAN = 12;

    private static final int STATES = 512;
    private static final int HIGHEST_FILE = 7;
    private static final int NO_PASSANT = 15;

    private static final int GOES_ON = 0;
    private static final int MATE = 1;
    private static final int STALEMATE = 2;
    private static final int DEAD_DRAW = 3;
    private static final int COUNT_DRAW = 4;
    private static final int CLOCK_DRAW = 5;
    private static final int COUNT_CLAIM = 6;
    private static final int CLOCK_CLAIM = 7;
    private static final int BOTH_CLAIMS = 8;

    private static final int DRAWING_COUNT = 5;
    private static final int DRAWING_CLOCK = 150;
    private static final int CLAIMING_COUNT = 3;
    private static final int CLAIMING_CLOCK = 100;

    // The facts of a position are numbered as the document numbers the w of the method "of".
    private static final int COUNT = 0;
    private static final int CLOCK = 1;
    private static final int VERDICT = 2;
    private static final int FIRST = 3;
    private static final int BEFORE = 4;
    private static final int STATE = 5;
    private static final int DEAD = 6;
    private static final int MEN = 7;
    private static final int FACTS = 8;

    private final long[] given;
    private final long[] told;
    private final int[] facts;
    private int positions;

    public GameArbiter() {
        given = new long[PARTS];
        told = new long[MOST_POSITIONS * PARTS];
        facts = new int[MOST_POSITIONS * FACTS];
        positions = 0;
    }

    public boolean squares(int part, long men) {
        if (!isPart(part) || !areMen(men)) {
            return false;
        }
        given[part] = men;
        return true;
    }

    public int begin(int state, int moves, boolean check, int clock) throws IllegalArgumentException {
        if (!isState(state) || !isMoves(moves) || !isClock(clock)) {
            throw new IllegalArgumentException("the state, the moves or the clock is none that there is");
        }
        positions = 0;
        return append(state, moves, check, clock);
    }

    public int next(int state, int moves, boolean check, boolean irreversible)
            throws IllegalStateException, IllegalArgumentException {
        if (!takesAnother()) {
            throw new IllegalStateException("the game takes no further position");
        }
        if (!isState(state) || !isMoves(moves)) {
            throw new IllegalArgumentException("the state or the moves are none that there are");
        }
        int clock = irreversible ? 0 : factOf(positions - 1, CLOCK) + 1;
        return append(state, moves, check, clock);
    }

    public boolean back() {
        if (positions == 0) {
            return false;
        }
        positions--;
        return true;
    }

    public int verdict() {
        return positions == 0 ? NONE : factOf(positions - 1, VERDICT);
    }

    public int of(int i, int w) throws IndexOutOfBoundsException {
        if (!isPosition(i) || w < 0 || w >= FACTS) {
            throw new IndexOutOfBoundsException("no such position, or no such fact of it");
        }
        return factOf(i, w);
    }

    public long men(int i, int part) throws IndexOutOfBoundsException {
        if (!isPosition(i) || !isPart(part)) {
            throw new IndexOutOfBoundsException("no such position, or no such part of it");
        }
        return told[i * PARTS + part];
    }

    public int times(int state) throws IllegalArgumentException {
        if (!isState(state)) {
            throw new IllegalArgumentException("the state is none that there is");
        }
        return countUpTo(lastSame(state));
    }

    public int look(int which) {
        switch (which) {
            case 0:
                return positions;
            case 1:
                return differentPositions();
            case 2:
                return greatest(COUNT);
            case 3:
                return greatest(CLOCK);
            default:
                return NONE;
        }
    }

    private static boolean isPart(int part) {
        return part >= 0 && part < PARTS;
    }

    private static boolean isMoves(int moves) {
        return moves >= 0 && moves <= MOST_MOVES;
    }

    private static boolean isClock(int clock) {
        return clock >= 0 && clock <= MOST_CLOCK;
    }

    private static boolean isState(int state) {
        if (state < 0 || state >= STATES) {
            return false;
        }
        int passant = state >> 5;
        return passant <= HIGHEST_FILE || passant == NO_PASSANT;
    }

    private boolean isPosition(int i) {
        return i >= 0 && i < positions;
    }

    private static boolean areMen(long part) {
        for (int square = 0; square < SQUARES_OF_A_PART; square++) {
            if (manOfPart(part, square) > HIGHEST_MAN) {
                return false;
            }
        }
        return true;
    }

    private static int manOfPart(long part, int square) {
        int shift = 4 * (SQUARES_OF_A_PART - 1 - square);
        return (int) (part >>> shift) & 15;
    }

    private boolean takesAnother() {
        if (positions == 0 || positions >= MOST_POSITIONS) {
            return false;
        }
        int last = factOf(positions - 1, VERDICT);
        return last < MATE || last > CLOCK_DRAW;
    }

    /** The caller has looked at i and fact: 0 .. positions - 1 and 0 .. FACTS - 1. */
    private int factOf(int i, int fact) {
        return facts[i * FACTS + fact];
    }

    private int append(int state, int moves, boolean check, int clock) {
        int i = positions;
        int before = lastSame(state);
        int count = countUpTo(before) + 1;
        int men = SQUARES_OF_A_BOARD - countGiven(EMPTY);
        boolean dead = isGivenDead(men);
        int verdict = judge(moves, check, dead, count, clock);
        int at = i * FACTS;
        facts[at + COUNT] = count;
        facts[at + CLOCK] = clock;
        facts[at + VERDICT] = verdict;
        facts[at + FIRST] = before == NONE ? i : factOf(before, FIRST);
        facts[at + BEFORE] = before;
        facts[at + STATE] = state;
        facts[at + DEAD] = dead ? 1 : 0;
        facts[at + MEN] = men;
        System.arraycopy(given, 0, told, i * PARTS, PARTS);
        positions = i + 1;
        return verdict;
    }

    private int lastSame(int state) {
        for (int i = positions - 1; i >= 0; i--) {
            if (factOf(i, STATE) == state && hasGivenSquares(i)) {
                return i;
            }
        }
        return NONE;
    }

    private boolean hasGivenSquares(int i) {
        for (int part = 0; part < PARTS; part++) {
            if (told[i * PARTS + part] != given[part]) {
                return false;
            }
        }
        return true;
    }

    private int countUpTo(int i) {
        return isPosition(i) ? factOf(i, COUNT) : 0;
    }

    private static int judge(int moves, boolean check, boolean dead, int count, int clock) {
        if (moves == 0) {
            return check ? MATE : STALEMATE;
        }
        if (dead) {
            return DEAD_DRAW;
        }
        if (count >= DRAWING_COUNT) {
            return COUNT_DRAW;
        }
        if (clock >= DRAWING_CLOCK) {
            return CLOCK_DRAW;
        }
        if (count >= CLAIMING_COUNT) {
            return clock >= CLAIMING_CLOCK ? BOTH_CLAIMS : COUNT_CLAIM;
        }
        return clock >= CLAIMING_CLOCK ? CLOCK_CLAIM : GOES_ON;
    }

    private boolean isGivenDead(int men) {
        if (countGiven(WHITE_KING) != 1 || countGiven(BLACK_KING) != 1) {
            return false;
        }
        if (men == 2) {
            return true;
        }
        int whiteBishops = countGiven(WHITE_BISHOP);
        int blackBishops = countGiven(BLACK_BISHOP);
        if (men == 3) {
            return whiteBishops + blackBishops + countGiven(WHITE_KNIGHT) + countGiven(BLACK_KNIGHT) == 1;
        }
        return men == 4 && whiteBishops == 1 && blackBishops == 1
                && colourOf(firstSquareGiven(WHITE_BISHOP)) == colourOf(firstSquareGiven(BLACK_BISHOP));
    }

    private int countGiven(int man) {
        int count = 0;
        for (int square = 0; square < SQUARES_OF_A_BOARD; square++) {
            if (manGiven(square) == man) {
                count++;
            }
        }
        return count;
    }

    private int firstSquareGiven(int man) {
        for (int square = 0; square < SQUARES_OF_A_BOARD; square++) {
            if (manGiven(square) == man) {
                return square;
            }
        }
        return NONE;
    }

    /** The caller has looked at square: 0 .. 63. */
    private int manGiven(int square) {
        return manOfPart(given[square >> 4], square & 15);
    }

    private static int colourOf(int square) {
        int file = square & 7;
        int rank = square >> 3;
        return (file + rank) & 1;
    }

    private int differentPositions() {
        int different = 0;
        for (int i = 0; i < positions; i++) {
            if (factOf(i, BEFORE) == NONE) {
                different++;
            }
        }
        return different;
    }

    private int greatest(int fact) {
        int most = 0;
        for (int i = 0; i < positions; i++) {
            most = Math.max(most, factOf(i, fact));
        }
        return most;
    }
}
