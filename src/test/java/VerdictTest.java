/** Promise 6: verdict, with all that the Terms say of COUNT, CLOCK, DEAD and the order of the verdicts. */
public final class VerdictTest {
    private static final String[] DEAD = {
        "4k3/8/8/8/8/8/8/4K3",
        "8/8/8/8/8/8/8/Kk6",
        "7k/8/8/8/8/8/8/K7",
        "4k3/8/8/8/8/8/8/2B1K3",
        "4k3/8/8/8/8/8/8/1N2K3",
        "4k3/8/8/2b5/8/8/8/4K3",
        "4k3/8/8/2n5/8/8/8/4K3",
        "n3k3/8/8/8/8/8/8/4K3",
        "4k2b/8/8/8/8/8/8/4K3",
        "4kb2/8/8/8/8/8/8/2B1K3",
        "4k2b/8/8/8/8/8/8/B3K3",
        "4k3/8/8/8/8/8/b7/1B2K3",
        "b3k3/8/8/8/8/8/8/4K2B",
        "4k3/8/8/8/3b4/4B3/8/4K3",
    };

    private static final String[] ALIVE = {
        "8/8/8/8/8/8/8/8",
        "8/8/8/8/8/8/8/4K3",
        "4k3/8/8/8/8/8/8/8",
        "4K3/8/8/8/8/8/8/4K3",
        "4k3/8/8/8/8/8/8/4k3",
        "4k3/8/8/8/8/8/8/4K2K",
        "4k2k/8/8/8/8/8/8/4K3",
        "4k2k/8/8/8/8/8/8/4K2K",
        "8/8/8/8/8/8/8/B3K3",
        "b7/8/8/8/8/8/8/B3K3",
        "4k3/8/8/8/8/8/P7/4K3",
        "4k3/p7/8/8/8/8/8/4K3",
        "4k3/8/8/8/8/8/8/R3K3",
        "r3k3/8/8/8/8/8/8/4K3",
        "4k3/8/8/8/8/8/8/Q3K3",
        "q3k3/8/8/8/8/8/8/4K3",
        "4k3/8/8/8/8/8/8/NN2K3",
        "nn2k3/8/8/8/8/8/8/4K3",
        "n3k3/8/8/8/8/8/8/N3K3",
        "n3k3/8/8/8/8/8/8/B3K3",
        "b3k3/8/8/8/8/8/8/N3K3",
        "4k3/8/8/8/8/8/8/BN2K3",
        "4k3/8/8/8/8/8/8/B1B1K3",
        "b1b1k3/8/8/8/8/8/8/4K3",
        "b3k3/8/8/8/8/8/8/B3K3",
        "4kb2/8/8/8/8/8/8/3BK3",
        "4k3/8/8/8/8/8/b7/B3K3",
        "4k3/8/8/8/8/8/8/Bb2K3",
        "4k2b/8/8/8/8/8/8/B1B1K3",
        "2b1k2b/8/8/8/8/8/8/B1B1K3",
        "4k2b/p7/8/8/8/8/8/B3K3",
        "4k2b/8/8/8/8/8/8/B3K1K1",
        "rnbqkbnr/pppppppp/8/8/8/8/PPPPPPPP/RNBQKBNR",
    };

    public static void main(String[] args) {
        withoutAGame();
        deadOrNot();
        bishopsOnEverySquare();
        order();
        counts();
        clocks();
        claims();
        whatTheSameIs();
        Probe.end();
    }

    private static void withoutAGame() {
        Probe x = new Probe("without a game");
        x.verdict(GameArbiter.NONE);
        x.board(Boards.ROOKS);
        x.verdict(GameArbiter.NONE);
        x.begin(0, 480, 20, false, 0);
        x.verdict(0);
        x.next(1, 480, 0, true, false);
        x.verdict(1);
        x.back(true);
        x.verdict(0);
        x.back(true);
        x.verdict(GameArbiter.NONE);
    }

    private static void deadOrNot() {
        for (String fen : DEAD) {
            deadIs(fen, true);
        }
        for (String fen : ALIVE) {
            deadIs(fen, false);
        }
    }

    private static void deadIs(String fen, boolean dead) {
        Probe x = new Probe(fen);
        x.board(fen);
        x.begin(dead ? 3 : 0, 480, 20, false, 0);
        x.verdict(dead ? 3 : 0);
        x.of(dead ? 1 : 0, 0, 6);
        x.begin(dead ? 3 : 5, 481, 20, true, 150);
        x.begin(1, 480, 0, true, 0);
        x.of(dead ? 1 : 0, 0, 6);
    }

    private static void bishopsOnEverySquare() {
        for (int white = 0; white < 64; white++) {
            Probe x = new Probe("white bishop on " + white);
            for (int black = 0; black < 64; black++) {
                if (white != black) {
                    bishopsOn(x, white, black);
                }
            }
        }
    }

    private static void bishopsOn(Probe x, int white, int black) {
        long[] parts = new long[4];
        Boards.put(parts, white, 3);
        Boards.put(parts, black, 9);
        for (int square = 0, king = 6; king <= 12; square++) {
            if (square != white && square != black) {
                Boards.put(parts, square, king);
                king += 6;
            }
        }
        boolean oneColour = (white % 8 + white / 8) % 2 == (black % 8 + black / 8) % 2;
        x.board(parts);
        x.begin(oneColour ? 3 : 0, 480, 20, false, 0);
    }

    private static void order() {
        Probe x = new Probe("order");
        x.board(Boards.KINGS);
        x.begin(1, 480, 0, true, 150);
        x.begin(2, 480, 0, false, 150);
        x.begin(3, 480, 1, true, 150);
        x.begin(3, 480, 1, false, 100);
        x.board(Boards.ROOKS);
        x.begin(1, 480, 0, true, 150);
        x.begin(2, 480, 0, false, 100);
        x.begin(5, 480, 1, true, 150);
        x.begin(7, 480, 1, true, 146);
        x.next(7, 480, 1, false, false);
        x.next(8, 480, 1, false, false);
        x.next(8, 480, 1, false, false);
        x.next(4, 480, 1, false, false);
        x.of(150, 4, 1);
        x.back(true);
        x.next(1, 480, 0, true, false);
        x.back(true);
        x.next(2, 480, 0, false, false);
        x.back(true);
        x.next(5, 481, 1, true, false);
    }

    private static void counts() {
        Probe x = new Probe("counts");
        x.board(Boards.ROOKS);
        x.begin(0, 480, 20, false, 0);
        x.next(0, 480, 20, false, false);
        x.next(6, 480, 20, false, false);
        x.next(6, 480, 20, false, false);
        x.next(4, 480, 20, false, false);
        x.verdict(4);
    }

    private static void clocks() {
        Probe x = new Probe("clocks");
        x.board(Boards.ROOKS);
        int[][] due = {{0, 0}, {99, 0}, {100, 7}, {101, 7}, {149, 7}, {150, 5}, {151, 5}, {1000, 5}};
        for (int[] row : due) {
            x.begin(row[1], 480, 20, false, row[0]);
            x.verdict(row[1]);
        }
        x.begin(0, 480, 20, false, 98);
        x.next(0, 481, 20, false, false);
        x.next(7, 482, 20, false, false);
        x.begin(7, 480, 20, false, 148);
        x.next(7, 481, 20, false, false);
        x.next(5, 482, 20, false, false);
    }

    private static void claims() {
        Probe x = new Probe("claims");
        x.board(Boards.ROOKS);
        x.begin(0, 480, 20, false, 97);
        x.next(0, 480, 20, false, false);
        x.next(6, 480, 20, false, false);
        x.next(8, 480, 20, false, false);
        x.next(7, 481, 20, false, false);
        x.verdict(7);
        x.back(true);
        x.verdict(8);
        x.back(true);
        x.verdict(6);
    }

    /** One square, the side, the rights or the passant being another makes another position. */
    private static void whatTheSameIs() {
        Probe x = new Probe("the same");
        x.board(Boards.ROOKS);
        int[] states = {480, 481, 482, 484, 488, 496, 510, 511, 0, 32, 64, 128, 7 * 32};
        x.begin(0, states[0], 20, false, 0);
        for (int i = 1; i < states.length; i++) {
            x.next(0, states[i], 20, false, false);
            x.of(1, i, 0);
        }
        x.next(0, 480, 5, true, true);
        x.of(2, states.length, 0);
        for (int square = 0; square < 64; square++) {
            long[] parts = Boards.parts(Boards.ROOKS);
            Boards.put(parts, square, 8);
            x.squares(true, square / 16, parts[square / 16]);
            x.times(0, 480);
            x.squares(true, square / 16, Boards.parts(Boards.ROOKS)[square / 16]);
        }
        x.times(2, 480);
    }
}
