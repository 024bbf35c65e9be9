/** Promise 18: hits. */
public final class HitsTest {
    private static final Checks CHECKS = new Checks();

    public static void main(String[] args) {
        pieces();
        blocked();
        ownPieces();
        whileSet();
        refused();
        CHECKS.finish();
    }

    /** The squares that one side hits are just those of the text. */
    private static void hitBy(String placing, int side, String want) {
        RuledBoard board = Boards.set(placing);
        StringBuilder got = new StringBuilder();
        for (int square = 0; square < 64; square++) {
            if (board.hits(side, square)) {
                got.append(got.length() == 0 ? "" : " ").append(Boards.name(square));
            }
        }
        CHECKS.dueText("side " + side + " of " + placing + " hits", got.toString(), want);
    }

    private static void pieces() {
        hitBy("8/8/8/8/3P4/8/8/8", 0, "c5 e5");
        hitBy("8/8/8/8/3p4/8/8/8", 1, "c3 e3");
        hitBy("8/8/8/8/P6P/8/8/8", 0, "b5 g5");
        hitBy("8/8/8/8/p6p/8/8/8", 1, "b3 g3");
        hitBy("8/8/8/8/3N4/8/8/8", 0, "c2 e2 b3 f3 b5 f5 c6 e6");
        hitBy("7n/8/8/8/8/8/8/8", 1, "g6 f7");
        hitBy("8/8/8/8/8/8/8/K7", 0, "b1 a2 b2");
        hitBy("8/8/8/8/7k/8/8/8", 1, "g3 h3 g4 g5 h5");
        hitBy("8/8/8/8/3B4/8/8/8", 0, "a1 g1 b2 f2 c3 e3 c5 e5 b6 f6 a7 g7 h8");
        hitBy("8/8/8/8/3r4/8/8/8", 1, "d1 d2 d3 a4 b4 c4 e4 f4 g4 h4 d5 d6 d7 d8");
        hitBy("8/8/8/8/8/8/8/Q7", 0,
                "b1 c1 d1 e1 f1 g1 h1 a2 b2 a3 c3 a4 d4 a5 e5 a6 f6 a7 g7 a8 h8");
        hitBy("8/8/8/8/3P4/8/8/8", 1, "");
        hitBy("8/8/8/8/8/8/8/8", 0, "");
    }

    private static void blocked() {
        hitBy("8/8/8/8/1n1r1N2/8/3p4/8", 1, "c1 e1 a2 c2 d2 d3 b4 c4 e4 f4 d5 a6 c6 d6 d7 d8");
        hitBy("8/8/8/8/8/2p5/8/Q7", 0, "b1 c1 d1 e1 f1 g1 h1 a2 b2 a3 c3 a4 a5 a6 a7 a8");
        hitBy("8/8/8/8/8/8/P7/RN6", 0, "b1 a2 d2 a3 b3 c3");
    }

    /** An own piece is hit as well, and a pinned one hits what it would without the pin. */
    private static void ownPieces() {
        RuledBoard board = new RuledBoard();
        CHECKS.due("own pawn", board.hits(0, Boards.square("e2")), true);
        CHECKS.due("own rook", board.hits(0, Boards.square("a1")), false);
        CHECKS.due("own knight", board.hits(0, Boards.square("g1")), true);
        CHECKS.due("black's f6", board.hits(1, Boards.square("f6")), true);
        CHECKS.due("black's f5", board.hits(1, Boards.square("f5")), false);
        RuledBoard pinned = Boards.of("4r2k/8/8/8/8/8/4N3/4K3 w - -");
        CHECKS.due("a pinned knight", pinned.hits(0, Boards.square("d4")), true);
        CHECKS.due("the side not to move", pinned.hits(1, Boards.square("e2")), true);
        CHECKS.due("passing hits nothing more",
                Boards.of("4k3/8/8/1Pp5/8/8/8/4K3 w - c").hits(0, Boards.square("c5")), false);
    }

    private static void whileSet() {
        hitBy("P6P/8/8/8/8/8/8/p6p", 0, "");
        hitBy("P6P/8/8/8/8/8/8/p6p", 1, "");
        hitBy("8/8/8/8/8/8/8/P6P", 0, "b2 g2");
        hitBy("K6K/8/8/8/8/8/8/8", 0, "a7 b7 g7 h7 b8 g8");
    }

    private static void refused() {
        RuledBoard board = new RuledBoard();
        for (int n = 0; n < 2; n++) {
            CHECKS.argument("side -1", () -> board.hits(-1, 0) ? 1 : 0);
            CHECKS.argument("side 2", () -> board.hits(2, 0) ? 1 : 0);
            CHECKS.argument("square -1", () -> board.hits(0, -1) ? 1 : 0);
            CHECKS.argument("square 64", () -> board.hits(1, 64) ? 1 : 0);
            CHECKS.argument("both", () -> board.hits(Integer.MIN_VALUE, Integer.MAX_VALUE) ? 1 : 0);
            board.clear();
        }
    }
}
