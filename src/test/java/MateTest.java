/** Promise 19: mate. */
public final class MateTest {
    private static final Checks CHECKS = new Checks();

    public static void main(String[] args) {
        mates();
        none();
        leastNumber();
        justTooFar();
        againstAllMoves();
        stalemateIsNoMate();
        nothingLeftBehind();
        refused();
        atTheLimit();
        CHECKS.finish();
    }

    private static void mateIn(String told, int n) {
        RuledBoard board = Boards.of(told);
        String before = Boards.look(board);
        CHECKS.due(told + ": mate(0)", board.mate(0), 0);
        CHECKS.due(told + ": mate(1)", board.mate(1), n == 1 ? 1 : 0);
        CHECKS.due(told + ": mate(2)", board.mate(2), n);
        CHECKS.dueText(told + ": unchanged", Boards.look(board), before);
    }

    private static void mates() {
        mateIn("6k1/5ppp/8/8/8/8/8/R5K1 w - -", 1);
        mateIn("r5k1/8/8/8/8/8/5PPP/6K1 b - -", 1);
        mateIn("6rk/6pp/8/6N1/8/8/8/6K1 w - -", 1);
        mateIn("6k1/8/8/8/8/r7/1r6/3K4 b - -", 1);
        // After a check that leaves only moves which lose.
        mateIn("8/4k3/1R6/R7/8/8/8/6K1 w - -", 2);
        mateIn("6k1/8/8/8/r7/1r6/4K3/8 b - -", 2);
        // After a move without check: every reply loses, and there is no time to wait.
        mateIn("kbK5/pp6/1P6/8/8/8/8/R7 w - -", 2);
        // By promotion, and by promotion to a knight alone.
        mateIn("6k1/P4ppp/8/8/8/8/8/6K1 w - -", 1);
        mateIn("6nr/5Ppk/7p/8/8/8/8/6K1 w - -", 1);
        // By castling alone.
        mateIn("8/8/5N2/8/7b/8/5R2/2k1K2R w K -", 1);
        mateIn("8/7P/8/8/3R4/8/3R4/R3K1k1 w Q -", 1);
        mateIn("K3k2r/6r1/8/8/8/8/8/8 b k -", 1);
        mateIn("r3k1K1/3q4/8/4r3/8/8/8/8 b q -", 1);
        // By passing alone.
        mateIn("8/7Q/8/6pP/8/5p2/5Kp1/n6k w - g", 1);
        mateIn("8/8/8/1r6/1Pp5/8/2K1k3/q7 b - b", 1);
    }

    private static void none() {
        mateIn(Boards.START, 0);
        mateIn("4k3/8/8/8/8/8/8/4K3 w - -", 0);
        // In mate and in stalemate the side to move has no move to mate with.
        mateIn("R5k1/5ppp/8/8/8/8/8/6K1 b - -", 0);
        mateIn("k7/2Q5/1K6/8/8/8/8/8 b - -", 0);
        // Every move that leaves black without one is stalemate, not mate.
        mateIn("k7/P7/8/1K6/8/8/8/8 w - -", 0);
        mateIn("k7/P7/2K5/8/8/8/8/8 w - -", 0);
    }

    private static void leastNumber() {
        CHECKS.sentence("mate: the least n up to most");
        // There is mate at once, and mate in two as well by waiting first.
        RuledBoard board = Boards.of("k7/8/1K6/8/8/8/8/7R w - -");
        CHECKS.due("mate(2) of what is mate in one", board.mate(2), 1);
        CHECKS.due("mate(1)", board.mate(1), 1);
        CHECKS.due("mate(0): no move, no mate", board.mate(0), 0);
        Boards.play(board, "h1h2 a8b8 h2h1 b8a8");
        CHECKS.due("mate(2) after waiting", board.mate(2), 1);
        RuledBoard two = Boards.of("8/4k3/1R6/R7/8/8/8/6K1 w - -");
        CHECKS.due("mate(2) of what is mate in two", two.mate(2), 2);
        CHECKS.due("mate(1) of what is mate in two", two.mate(1), 0);
        CHECKS.due("mate(0) of what is mate in two", two.mate(0), 0);
        Boards.play(two, "a5a7 e7e8");
        CHECKS.due("mate(2) one move on", two.mate(2), 1);
        Boards.move(two, "b6b8");
        CHECKS.due("ending() two moves on", two.ending(), 1);
        CHECKS.due("mate(2) of the side that is mated", two.mate(2), 0);
    }

    /** Shown by the class itself: after the first move every reply leaves mate in two, and one no less. */
    private static void justTooFar() {
        CHECKS.sentence("mate: 0 when there is none up to most, though there is one of three moves");
        RuledBoard board = Boards.of("8/8/5k2/1R6/R7/8/8/6K1 w - -");
        CHECKS.due("mate(2)", board.mate(2), 0);
        Boards.move(board, "a4a6");
        int most = 0;
        int least = 2;
        int count = board.moves();
        for (int k = 0; k < count; k++) {
            int code = board.nth(k);
            board.move(code & 63, code >> 6 & 63, code >> 12);
            int n = board.mate(2);
            most = Math.max(most, n);
            least = Math.min(least, n == 0 ? 0 : 1);
            board.undo();
        }
        CHECKS.due("the longest reply", most, 2);
        CHECKS.due("no reply without mate", least, 1);
    }

    private static void againstAllMoves() {
        CHECKS.sentence("mate: against all moves of the other side in between, passing too");
        mateIn("2B5/7R/5Pk1/4K3/2B1p3/8/5P2/8 w - -", 0);
        mateIn("8/p5n1/Pk4n1/3Q4/p7/8/1P6/3R2K1 w - -", 0);
        mateIn("8/2Q3p1/8/R1N3k1/7p/N7/6PB/3K4 w - -", 0);
        // The pawn would mate by two ranks if it could not be taken by passing; another way takes one move more.
        mateIn("8/6P1/8/kPK5/p7/8/1P2B3/8 w - -", 2);
        mateIn("8/8/7Q/k7/p4K2/P1N2N2/RP1n4/8 w - -", 2);
        CHECKS.sentence("mate: against all moves of the other side in between, castling too");
        mateIn("4k2r/2R5/1P6/3K2B1/8/8/8/8 w k -", 0);
        mateIn("4k2r/2R5/1P6/3K2B1/8/8/8/8 w - -", 2);
        mateIn("r3k3/Q7/4K3/8/4N1b1/2B1n1Q1/8/6N1 w q -", 0);
        mateIn("r3k3/Q7/4K3/8/4N1b1/2B1n1Q1/8/6N1 w - -", 2);
        mateIn("4k2r/8/2R5/8/1R5B/8/8/2K5 w k -", 0);
        mateIn("4k2r/8/2R5/8/1R5B/8/8/2K5 w - -", 2);
        CHECKS.sentence("mate: against all moves of the other side in between, each promotion too");
        mateIn("8/8/8/4Q2N/7k/5K2/P5p1/8 w - -", 0);
        mateIn("8/3P4/8/4B3/4K3/7k/4p1R1/2B5 w - -", 0);
        mateIn("8/3R4/8/8/3q4/1K2R3/p7/2k5 w - -", 0);
    }

    private static void stalemateIsNoMate() {
        CHECKS.sentence("mate: a side without moves that is not in check is not mated");
        // The pawn can take the last move from black, but not give check with it.
        RuledBoard board = Boards.of("7k/5K2/8/6P1/8/8/8/8 w - -");
        CHECKS.due("mate(2)", board.mate(2), 0);
        Boards.move(board, "g5g6");
        CHECKS.due("ending() by the move that leaves none", board.ending(), 2);
        mateIn("k7/P7/2K5/8/8/8/8/8 w - -", 0);
        mateIn("8/8/8/8/8/5k2/5p2/5K2 w - -", 0);
    }

    /** On one object: first a board with the mating move, then one where a pawn stands in its way. */
    private static void nothingLeftBehind() {
        CHECKS.sentence("mate: by moves of the board of now alone");
        String[] open = {"8/8/R7/8/8/8/8/5K1k", "8/8/8/8/4Q3/k1K5/8/8", "4k3/6Q1/5K2/8/8/8/8/8",
            "8/8/8/8/8/8/8/k1K4Q", "8/8/8/R7/8/8/8/5K1k"};
        String[] shut = {"8/8/R3P3/8/8/8/8/5K1k", "8/8/2P5/8/4Q3/k1K5/8/8", "4k3/4P1Q1/5K2/8/8/8/8/8",
            "8/8/2P5/8/8/8/8/k1K4Q", "8/8/8/R2P4/8/8/8/5K1k"};
        for (int n = 0; n < open.length; n++) {
            RuledBoard board = Boards.of(open[n] + " w - -");
            CHECKS.due(open[n] + ": mate(1)", board.mate(1), 1);
            board.clear();
            Boards.put(board, shut[n]);
            board.begin(0, 0, -1);
            CHECKS.due(shut[n] + ": mate(1) after it", board.mate(1), 0);
            CHECKS.due(shut[n] + ": mate(1) at once", Boards.of(shut[n] + " w - -").mate(1), 0);
        }
    }

    private static void refused() {
        CHECKS.sentence("mate: being set, or most is not 0 .. 2");
        RuledBoard board = new RuledBoard();
        CHECKS.argument("mate(-1)", () -> board.mate(-1));
        CHECKS.argument("mate(3)", () -> board.mate(3));
        CHECKS.argument("mate(min)", () -> board.mate(Integer.MIN_VALUE));
        CHECKS.argument("mate(max)", () -> board.mate(Integer.MAX_VALUE));
        board.clear();
        CHECKS.state("mate(0) being set", () -> board.mate(0));
        CHECKS.state("mate(1) being set", () -> board.mate(1));
        CHECKS.state("mate(3) being set", () -> board.mate(3));
    }

    /** The limit of 150 is one of the call move, not of the moves that there are. */
    private static void atTheLimit() {
        CHECKS.sentence("mate: after 150 moves too");
        RuledBoard board = Boards.of("8/4k3/1R6/R7/8/8/8/6K1 w - -");
        String[] round = {"g1g2", "e7f7", "g2g1", "f7e7"};
        for (int n = 0; n < 148; n++) {
            Boards.move(board, round[n % 4]);
        }
        CHECKS.due("mate(2) at 148", board.mate(2), 2);
        Boards.play(board, "g1g2 e7f7");
        CHECKS.due("made()", board.made(), 150);
        CHECKS.due("mate(2) at 150", board.mate(2), 2);
        CHECKS.due("made() still", board.made(), 150);
    }
}
