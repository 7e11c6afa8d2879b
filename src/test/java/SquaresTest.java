/** Promise 2: squares. */
public final class SquaresTest {
    public static void main(String[] args) {
        everyMan();
        noSuchMan();
        noSuchPart();
        refusedChangesNothing();
        givenStays();
        laterGivenLeavesTheGame();
        Probe.end();
    }

    private static void everyMan() {
        Probe x = new Probe("every man");
        long[] men = {0x0123456789ABCL, 0xCBA9876543210123L, 0xCCCCCCCCCCCCCCCCL, 0x1000000000000001L};
        x.board(men);
        x.begin(0, 480, 9, false, 0);
        for (int part = 0; part < 4; part++) {
            x.men(men[part], 0, part);
        }
    }

    private static void noSuchMan() {
        Probe x = new Probe("no such man");
        for (int part = 0; part < 4; part++) {
            for (int square = 0; square < 16; square++) {
                x.squares(true, part, 12L << 4 * square);
                for (long man = 13; man <= 15; man++) {
                    x.squares(false, part, man << 4 * square);
                }
            }
            x.squares(true, part, 0xC1C2C3C4C5C6C7C8L);
            x.squares(false, part, -1L);
            x.squares(false, part, Long.MIN_VALUE | 0x5000000000000000L);
        }
    }

    private static void noSuchPart() {
        Probe x = new Probe("no such part");
        x.squares(false, -1, 0L);
        x.squares(false, 4, 0L);
        x.squares(false, Integer.MIN_VALUE, 0L);
        x.squares(false, Integer.MAX_VALUE, 0L);
        x.squares(false, 4, -1L);
        x.squares(true, 0, 0L);
        x.squares(true, 3, 0L);
    }

    private static void refusedChangesNothing() {
        Probe x = new Probe("refused");
        x.board(Boards.START);
        x.squares(false, 0, 0xD000000000000000L);
        x.squares(false, 1, 0x000000000000000FL);
        x.squares(false, 2, 0x00000000E0000000L);
        x.squares(false, 4, 1L);
        x.squares(false, -1, 1L);
        x.begin(0, 510, 20, false, 0);
        x.men(Boards.START, 0);
    }

    private static void givenStays() {
        Probe x = new Probe("given stays");
        x.board(Boards.START);
        x.begin(0, 480, 20, false, 0);
        x.times(1, 480);
        x.next(0, 481, 20, false, false);
        x.men(Boards.START, 1);
        x.back(true);
        x.back(true);
        x.begin(0, 480, 20, false, 0);
        x.men(Boards.START, 0);
        x.squares(true, 3, 0L);
        x.next(0, 481, 20, false, true);
        x.men("8/8/8/8/8/8/PPPPPPPP/RNBQKBNR", 1);
    }

    private static void laterGivenLeavesTheGame() {
        Probe x = new Probe("later given");
        x.board(Boards.START);
        x.begin(0, 480, 20, false, 0);
        x.next(0, 481, 20, false, false);
        x.board(Boards.ROOKS);
        x.looks(2, 2, 1, 1);
        x.facts(0, 1, 0, 0, 0, -1, 480, 0, 32);
        x.facts(1, 1, 1, 0, 1, -1, 481, 0, 32);
        x.men(Boards.START, 0);
        x.men(Boards.START, 1);
        x.times(0, 480);
    }
}
