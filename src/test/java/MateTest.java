/** Promise 19: mate. */
public final class MateTest {
    private static final Checks CHECKS = new Checks();

    public static void main(String[] args) {
        mates();
        none();
        refused();
        atTheLimit();
        CHECKS.finish();
    }

    private static void mateIn(String told, int n) {
        RuledBoard board = Boards.of(told);
        String before = Boards.look(board);
        CHECKS.due(told + ": mate(0)", board.mate(0), 0);
        CHECKS.due(told + ": mate(1)", board.mate(1), n == 1 ? 1 : 0);
        CHECKS.due(told + ": mate(2)", board.mate(2), n);
        CHECKS.dueText(told + ": unchanged", Boards.look(board), before);
    }

    private static void mates() {
        mateIn("6k1/5ppp/8/8/8/8/8/R5K1 w - -", 1);
        mateIn("r5k1/8/8/8/8/8/5PPP/6K1 b - -", 1);
        mateIn("6rk/6pp/8/6N1/8/8/8/6K1 w - -", 1);
        mateIn("6k1/8/8/8/8/r7/1r6/3K4 b - -", 1);
        // After a check that leaves only moves which lose.
        mateIn("8/4k3/1R6/R7/8/8/8/6K1 w - -", 2);
        mateIn("6k1/8/8/8/r7/1r6/4K3/8 b - -", 2);
        // After a move without check: every reply loses, and there is no time to wait.
        mateIn("kbK5/pp6/1P6/8/8/8/8/R7 w - -", 2);
        // By promotion, and by promotion to a knight alone.
        mateIn("6k1/P4ppp/8/8/8/8/8/6K1 w - -", 1);
        mateIn("6nr/5Ppk/7p/8/8/8/8/6K1 w - -", 1);
        // By castling alone.
        mateIn("8/8/5N2/8/7b/8/5R2/2k1K2R w K -", 1);
        mateIn("8/7P/8/8/3R4/8/3R4/R3K1k1 w Q -", 1);
        mateIn("K3k2r/6r1/8/8/8/8/8/8 b k -", 1);
        mateIn("r3k1K1/3q4/8/4r3/8/8/8/8 b q -", 1);
        // By passing alone.
        mateIn("8/7Q/8/6pP/8/5p2/5Kp1/n6k w - g", 1);
        mateIn("8/8/8/1r6/1Pp5/8/2K1k3/q7 b - b", 1);
    }

    private static void none() {
        mateIn(Boards.START, 0);
        mateIn("4k3/8/8/8/8/8/8/4K3 w - -", 0);
        // In mate and in stalemate the side to move has no move to mate with.
        mateIn("R5k1/5ppp/8/8/8/8/8/6K1 b - -", 0);
        mateIn("k7/2Q5/1K6/8/8/8/8/8 b - -", 0);
        // Every move that leaves black without one is stalemate, not mate.
        mateIn("k7/P7/8/1K6/8/8/8/8 w - -", 0);
        mateIn("k7/P7/2K5/8/8/8/8/8 w - -", 0);
    }

    private static void refused() {
        RuledBoard board = new RuledBoard();
        CHECKS.argument("mate(-1)", () -> board.mate(-1));
        CHECKS.argument("mate(3)", () -> board.mate(3));
        CHECKS.argument("mate(min)", () -> board.mate(Integer.MIN_VALUE));
        CHECKS.argument("mate(max)", () -> board.mate(Integer.MAX_VALUE));
        board.clear();
        CHECKS.state("mate(0) being set", () -> board.mate(0));
        CHECKS.state("mate(1) being set", () -> board.mate(1));
        CHECKS.state("mate(3) being set", () -> board.mate(3));
    }

    /** The limit of 150 is one of the call move, not of the moves that there are. */
    private static void atTheLimit() {
        RuledBoard board = Boards.of("8/4k3/1R6/R7/8/8/8/6K1 w - -");
        String[] round = {"g1g2", "e7f7", "g2g1", "f7e7"};
        for (int n = 0; n < 148; n++) {
            Boards.move(board, round[n % 4]);
        }
        CHECKS.due("mate(2) at 148", board.mate(2), 2);
        Boards.play(board, "g1g2 e7f7");
        CHECKS.due("made()", board.made(), 150);
        CHECKS.due("mate(2) at 150", board.mate(2), 2);
        CHECKS.due("made() still", board.made(), 150);
    }
}
