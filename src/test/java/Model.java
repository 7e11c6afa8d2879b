import java.util.ArrayList;
import java.util.Arrays;
import java.util.List;

/** The document said once more, without any thought of speed: every answer is worked out anew from the row. */
final class Model {
    /** A position with what came with it. */
    private record Entry(List<Integer> men, int state, int moves, boolean check, int clock) {
        boolean same(Entry other) {
            return men.equals(other.men) && state == other.state;
        }

        long number(int man) {
            return men.stream().filter(m -> m == man).count();
        }
    }

    private final Integer[] board = new Integer[64];
    private final List<Entry> row = new ArrayList<>();

    Model() {
        Arrays.fill(board, 0);
    }

    Object squares(int part, long men) {
        String digits = String.format("%016x", men);
        if (part < 0 || part > 3 || digits.matches(".*[def].*")) {
            return false;
        }
        for (int i = 0; i < 16; i++) {
            board[16 * part + i] = Character.digit(digits.charAt(i), 16);
        }
        return true;
    }

    Object begin(int state, int moves, boolean check, int clock) {
        if (wrongState(state) || moves < 0 || moves > 300 || clock < 0 || clock > 1000) {
            return Probe.ILLEGAL_ARGUMENT;
        }
        row.clear();
        row.add(new Entry(given(), state, moves, check, clock));
        return verdict();
    }

    Object next(int state, int moves, boolean check, boolean irreversible) {
        if (row.isEmpty() || row.size() == 640 || verdict() >= 1 && verdict() <= 5) {
            return Probe.ILLEGAL_STATE;
        }
        if (wrongState(state) || moves < 0 || moves > 300) {
            return Probe.ILLEGAL_ARGUMENT;
        }
        int clock = irreversible ? 0 : row.get(row.size() - 1).clock + 1;
        row.add(new Entry(given(), state, moves, check, clock));
        return verdict();
    }

    Object back() {
        if (row.isEmpty()) {
            return false;
        }
        row.remove(row.size() - 1);
        return true;
    }

    int verdict() {
        return row.isEmpty() ? -1 : verdictOf(row.size() - 1);
    }

    Object of(int i, int w) {
        if (i < 0 || i >= row.size() || w < 0 || w > 7) {
            return Probe.OUT_OF_BOUNDS;
        }
        Entry asked = row.get(i);
        List<Integer> alike = sameUpTo(i);
        return switch (w) {
            case 0 -> alike.size();
            case 1 -> asked.clock;
            case 2 -> verdictOf(i);
            case 3 -> alike.get(0);
            case 4 -> alike.size() == 1 ? -1 : alike.get(alike.size() - 2);
            case 5 -> asked.state;
            case 6 -> dead(asked) ? 1 : 0;
            default -> 64 - asked.number(0);
        };
    }

    Object men(int i, int part) {
        if (i < 0 || i >= row.size() || part < 0 || part > 3) {
            return Probe.OUT_OF_BOUNDS;
        }
        StringBuilder digits = new StringBuilder();
        for (int man : row.get(i).men.subList(16 * part, 16 * part + 16)) {
            digits.append(Character.forDigit(man, 16));
        }
        return Long.parseUnsignedLong(digits.toString(), 16);
    }

    Object times(int state) {
        if (wrongState(state)) {
            return Probe.ILLEGAL_ARGUMENT;
        }
        Entry asked = new Entry(given(), state, 1, false, 0);
        return row.stream().filter(asked::same).count();
    }

    Object look(int which) {
        if (which < 0 || which > 3) {
            return -1;
        }
        int different = 0;
        int count = 0;
        int clock = 0;
        for (int i = 0; i < row.size(); i++) {
            different += sameUpTo(i).size() == 1 ? 1 : 0;
            count = Math.max(count, sameUpTo(i).size());
            clock = Math.max(clock, row.get(i).clock);
        }
        return new int[] {row.size(), different, count, clock}[which];
    }

    private List<Integer> given() {
        return List.of(board.clone());
    }

    private static boolean wrongState(int state) {
        int passant = state / 32;
        return state < 0 || passant > 7 && passant != 15;
    }

    private List<Integer> sameUpTo(int i) {
        List<Integer> alike = new ArrayList<>();
        for (int j = 0; j <= i; j++) {
            if (row.get(j).same(row.get(i))) {
                alike.add(j);
            }
        }
        return alike;
    }

    private int verdictOf(int i) {
        Entry asked = row.get(i);
        int count = sameUpTo(i).size();
        boolean[] holds = {
            asked.moves == 0 && asked.check, asked.moves == 0 && !asked.check, dead(asked),
            count >= 5, asked.clock >= 150,
            count >= 3 && asked.clock < 100, count < 3 && asked.clock >= 100, count >= 3 && asked.clock >= 100};
        for (int verdict = 1; verdict <= 8; verdict++) {
            if (holds[verdict - 1]) {
                return verdict;
            }
        }
        return 0;
    }

    /** The men that are not kings, written in their order, with the colour of a bishop's square behind it. */
    private static boolean dead(Entry asked) {
        StringBuilder rest = new StringBuilder();
        for (int square = 0; square < 64; square++) {
            int man = asked.men.get(square);
            if (man != 0 && man != 6 && man != 12) {
                rest.append(" PNBRQKpnbrqk".charAt(man)).append((square + square / 8) % 2);
            }
        }
        return asked.number(6) == 1 && asked.number(12) == 1
                && rest.toString().matches("|[BNbn].|B0b0|B1b1|b0B0|b1B1");
    }
}
