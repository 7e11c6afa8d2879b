import java.util.Arrays;

/** "It is DEAD if there are two kings (one of each side) and besides: ..": what just is, and what just is not. */
public final class EdgeDeadTest {
    private static final int A1 = 0;
    private static final int B1 = 1;
    private static final int D1 = 3;
    private static final int H1 = 7;
    private static final int A8 = 56;
    private static final int H8 = 63;

    private static final int WHITE_KNIGHT = 2;
    private static final int WHITE_BISHOP = 3;
    private static final int WHITE_KING = 6;
    private static final int BLACK_KNIGHT = 8;
    private static final int BLACK_BISHOP = 9;
    private static final int BLACK_KING = 12;
    private static final int[] LIGHT = {WHITE_KNIGHT, WHITE_BISHOP, BLACK_KNIGHT, BLACK_BISHOP};

    public static void main(String[] args) {
        oneKingOfEachSide();
        besidesNothing();
        besidesOneMan();
        besidesTwoMen();
        justOneBishopOfEachSide();
        coloursInTheCorners();
        coloursPastTheEndOfARank();
        squaresAlone();
        deadBehindMate();
        Probe.end();
    }

    private static void oneKingOfEachSide() {
        for (int white = 0; white <= 3; white++) {
            for (int black = 0; black <= 3; black++) {
                long[] parts = new long[4];
                for (int i = 0; i < white; i++) {
                    Boards.put(parts, 2 * i, WHITE_KING);
                }
                for (int i = 0; i < black; i++) {
                    Boards.put(parts, H8 - 2 * i, BLACK_KING);
                }
                String name = white + " white kings, " + black + " black ones";
                dead(name, parts, white == 1 && black == 1);
                Boards.put(parts, 32, WHITE_KNIGHT);
                dead(name + ", a knight", parts, white == 1 && black == 1);
                Boards.put(parts, 32, WHITE_BISHOP);
                Boards.put(parts, 34, BLACK_BISHOP);
                dead(name + ", two bishops", parts, white == 1 && black == 1);
            }
        }
    }

    private static void besidesNothing() {
        for (int king = 1; king < 64; king++) {
            dead("kings on 0 and " + king, board(A1, WHITE_KING, king, BLACK_KING), true);
            dead("kings on 63 and " + (H8 - king), board(H8, WHITE_KING, H8 - king, BLACK_KING), true);
        }
    }

    private static void besidesOneMan() {
        for (int man = 1; man <= 12; man++) {
            int one = man;
            boolean light = Arrays.stream(LIGHT).anyMatch(m -> m == one);
            for (int square = 2; square < 64; square++) {
                dead("man " + man + " on " + square, board(A1, WHITE_KING, B1, BLACK_KING, square, man), light);
            }
        }
    }

    /** Bishops on two squares of one colour, then on two of both. */
    private static void besidesTwoMen() {
        for (int one = 1; one <= 12; one++) {
            for (int other = 1; other <= 12; other++) {
                boolean bishops = one + other == WHITE_BISHOP + BLACK_BISHOP && one % 6 == 3;
                String name = "men " + one + " and " + other;
                dead(name + " on 20 and 22", board(A1, WHITE_KING, H8, BLACK_KING, 20, one, 22, other), bishops);
                dead(name + " on 20 and 21", board(A1, WHITE_KING, H8, BLACK_KING, 20, one, 21, other), false);
            }
        }
    }

    private static void justOneBishopOfEachSide() {
        for (int third = 1; third <= 12; third++) {
            long[] parts = board(A1, WHITE_KING, H8, BLACK_KING, 20, WHITE_BISHOP, 22, BLACK_BISHOP);
            dead("a bishop of each side", parts, true);
            Boards.put(parts, 24, third);
            dead("a bishop of each side and man " + third, parts, false);
        }
        dead("two white bishops of one colour",
                board(A1, WHITE_KING, H8, BLACK_KING, 20, WHITE_BISHOP, 22, WHITE_BISHOP), false);
        dead("two black bishops of one colour",
                board(A1, WHITE_KING, H8, BLACK_KING, 20, BLACK_BISHOP, 22, BLACK_BISHOP), false);
        dead("two bishops of each side", board(A1, WHITE_KING, H8, BLACK_KING, 20, WHITE_BISHOP, 22, BLACK_BISHOP,
                36, WHITE_BISHOP, 38, BLACK_BISHOP), false);
    }

    private static void coloursInTheCorners() {
        bishops(A1, H8, true);
        bishops(H8, A1, true);
        bishops(H1, A8, true);
        bishops(A8, H1, true);
        bishops(A1, H1, false);
        bishops(A1, A8, false);
        bishops(H8, H1, false);
        bishops(H8, A8, false);
    }

    /** The last square of a rank and the first one of the next rank are of one colour. */
    private static void coloursPastTheEndOfARank() {
        for (int first = 8; first <= A8; first += 8) {
            bishops(first - 1, first, true);
            bishops(first, first - 1, true);
            bishops(first - 2, first - 1, false);
            bishops(first - 8, first, false);
            bishops(first - 8, first + 1, true);
        }
    }

    private static void bishops(int white, int black, boolean dead) {
        long[] parts = board(27, WHITE_KING, 29, BLACK_KING, white, WHITE_BISHOP, black, BLACK_BISHOP);
        dead("bishops on " + white + " and " + black, parts, dead);
    }

    /** Neither state nor moves, check or clock has a part in it, and no bishop may be told for a king. */
    private static void squaresAlone() {
        Probe x = new Probe("dead whatever comes with it");
        x.board(board(A1, WHITE_KING, H8, BLACK_KING, D1, WHITE_BISHOP));
        int[] states = {0, 1, 30, 255, 480, 511};
        for (int state : states) {
            x.begin(3, state, 1, false, 0);
            x.of(1, 0, 6);
            x.begin(3, state, 300, true, 1000);
            x.of(1, 0, 6);
        }
    }

    private static void deadBehindMate() {
        Probe x = new Probe("dead, and mate or stalemate");
        x.board(Boards.KINGS);
        x.begin(1, 480, 0, true, 0);
        x.of(1, 0, 6);
        x.of(1, 0, 2);
        x.begin(2, 480, 0, false, 0);
        x.of(1, 0, 6);
        x.of(2, 0, 2);
        x.board(Boards.ROOKS);
        x.begin(1, 480, 0, true, 0);
        x.of(0, 0, 6);
    }

    private static long[] board(int... squaresAndMen) {
        long[] parts = new long[4];
        for (int i = 0; i < squaresAndMen.length; i += 2) {
            Boards.put(parts, squaresAndMen[i], squaresAndMen[i + 1]);
        }
        return parts;
    }

    private static void dead(String name, long[] parts, boolean due) {
        Probe x = new Probe("DEAD: " + name);
        x.board(parts);
        x.begin(due ? 3 : 0, 480, 20, false, 0);
        x.of(due ? 1 : 0, 0, 6);
    }
}
