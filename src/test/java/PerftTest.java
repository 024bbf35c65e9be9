/** Counts the lines of play from well-known positions, whose numbers are known from elsewhere. */
public final class PerftTest {
    private static final Checks CHECKS = new Checks();

    public static void main(String[] args) {
        counts(Boards.START, 20, 400, 8902, 197281);
        counts("r3k2r/p1ppqpb1/bn2pnp1/3PN3/1p2P3/2N2Q1p/PPPBBPPP/R3K2R w KQkq -", 48, 2039, 97862);
        counts("8/2p5/3p4/KP5r/1R3p1k/8/4P1P1/8 w - -", 14, 191, 2812, 43238);
        counts("r3k2r/Pppp1ppp/1b3nbN/nP6/BBP1P3/q4N2/Pp1P2PP/R2Q1RK1 w kq -", 6, 264, 9467);
        counts("r2q1rk1/pP1p2pp/Q4n2/bbp1p3/Np6/1B3NBn/pPPP1PPP/R3K2R b KQ -", 6, 264, 9467);
        counts("rnbq1k1r/pp1Pbppp/2p5/8/2B5/8/PPP1NnPP/RNBQK2R w KQ -", 44, 1486, 62379);
        CHECKS.finish();
    }

    private static void counts(String told, long... want) {
        for (int depth = 1; depth <= want.length; depth++) {
            CHECKS.due("lines of " + depth + " from " + told, lines(told, new int[0], depth), want[depth - 1]);
        }
    }

    /** Plays each line on a board of its own, since a board is promised for 512 calls only. */
    private static long lines(String told, int[] before, int depth) {
        RuledBoard board = Boards.of(told);
        for (int code : before) {
            board.move(code & 63, code >> 6 & 63, code >> 12);
        }
        int count = board.moves();
        if (depth == 1) {
            return count;
        }
        long sum = 0;
        int[] line = java.util.Arrays.copyOf(before, before.length + 1);
        for (int k = 0; k < count; k++) {
            line[before.length] = board.nth(k);
            sum += lines(told, line, depth - 1);
        }
        return sum;
    }
}
