/** Squares written as in a FEN (rank 8 first), packed as the document packs them. */
final class Boards {
    static final String START = "rnbqkbnr/pppppppp/8/8/8/8/PPPPPPPP/RNBQKBNR";
    static final String EMPTY = "8/8/8/8/8/8/8/8";
    static final String ROOKS = "r3k3/8/8/8/8/8/8/R3K3";
    static final String KINGS = "4k3/8/8/8/8/8/8/4K3";

    private static final String MEN = ".PNBRQKpnbrqk";

    private Boards() {
    }

    static long[] parts(String fen) {
        long[] parts = new long[4];
        int rank = 7;
        int file = 0;
        for (char sign : fen.toCharArray()) {
            if (sign == '/') {
                rank--;
                file = 0;
            } else if (sign >= '1' && sign <= '8') {
                file += sign - '0';
            } else {
                put(parts, 8 * rank + file, MEN.indexOf(sign));
                file++;
            }
        }
        return parts;
    }

    static void put(long[] parts, int square, int man) {
        int shift = 60 - 4 * (square % 16);
        parts[square / 16] = parts[square / 16] & ~(15L << shift) | (long) man << shift;
    }

    static int state(int side, int rights, int passant) {
        return side + 2 * rights + 32 * passant;
    }
}
