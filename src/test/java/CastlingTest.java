/** Castling and rights: the four castlings, each condition by itself, and how each right goes. */
public final class CastlingTest {
    private static final Checks CHECKS = new Checks();
    private static final String WHITE = "r3k2r/8/8/8/8/8/8/R3K2R w KQkq -";
    private static final String BLACK = "r3k2r/8/8/8/8/8/8/R3K2R b KQkq -";
    /** By the right's place among the bits: the rook's home, where the king goes, where the rook goes. */
    private static final int[] ROOKS = {7, 0, 63, 56};
    private static final int[] KINGS = {6, 2, 62, 58};
    private static final int[] OVERS = {5, 3, 61, 59};

    public static void main(String[] args) {
        withRight();
        whatItDoes();
        squaresBetween();
        notInCheck();
        squareGoneOver();
        squareGoneTo();
        otherSquaresHit();
        kingMoved();
        rookMoved();
        wentOffHome();
        rightsStay();
        rightsComeBackByUndoOnly();
        CHECKS.finish();
    }

    private static RuledBoard alone(int right) {
        int side = right / 2;
        RuledBoard board = Boards.set("8/8/8/8/8/8/8/8");
        board.put(4 + 56 * side, 6 + 6 * side);
        board.put(ROOKS[right], 4 + 6 * side);
        return board;
    }

    private static void canCastle(RuledBoard board, int right, String what, boolean want) {
        int side = right / 2;
        int king = 4 + 56 * side;
        boolean found = false;
        int count = board.moves();
        for (int k = 0; k < count; k++) {
            found |= board.nth(k) == king + 64 * KINGS[right];
        }
        CHECKS.due(what + ": castling " + (1 << right), found, want);
        String before = Boards.look(board);
        CHECKS.dueText(what + ": castled " + (1 << right), Checks.told(() -> board.move(king, KINGS[right], 0)),
                want ? "1" : "throws.IllegalArgumentException");
        if (!want) {
            CHECKS.dueText(what + " changed nothing", Boards.look(board), before);
        }
    }

    private static void withRight() {
        CHECKS.sentence("castling: with a right");
        for (int rights = 0; rights < 16; rights++) {
            for (int right = 0; right < 4; right++) {
                RuledBoard board = Boards.set("r3k2r/8/8/8/8/8/8/R3K2R");
                board.begin(right / 2, rights, -1);
                canCastle(board, right, "rights " + rights, (rights >> right & 1) != 0);
            }
        }
        CHECKS.sentence("castling: with no right of the other side");
        RuledBoard board = Boards.of(WHITE);
        CHECKS.argument("black's, white to move", () -> Boards.move(board, "e8g8"));
        CHECKS.argument("black's, white to move", () -> Boards.move(board, "e8c8"));
        RuledBoard black = Boards.of(BLACK);
        CHECKS.argument("white's, black to move", () -> Boards.move(black, "e1g1"));
        CHECKS.argument("white's, black to move", () -> Boards.move(black, "e1c1"));
    }

    private static void whatItDoes() {
        CHECKS.sentence("castling: the king goes two files towards that rook, the rook to the square gone over");
        for (int right = 0; right < 4; right++) {
            int side = right / 2;
            RuledBoard board = Boards.of(side == 0 ? WHITE : BLACK);
            String before = Boards.look(board);
            CHECKS.due("castled", board.move(4 + 56 * side, KINGS[right], 0), 1);
            for (int square = 0; square < 64; square++) {
                int stood = homeAt(square);
                int want = square == KINGS[right] ? 6 + 6 * side : square == OVERS[right] ? 4 + 6 * side
                        : square == ROOKS[right] || square == 4 + 56 * side ? 0 : stood;
                CHECKS.due("at(" + square + ") after castling " + (1 << right), board.at(square), want);
            }
            CHECKS.due("rights()", board.rights(), side == 0 ? 12 : 3);
            CHECKS.due("quiet()", board.quiet(), 1);
            CHECKS.due("passed()", board.passed(), -1);
            CHECKS.due("undo()", board.undo(), 0);
            CHECKS.dueText("taken back", Boards.look(board), before);
        }
    }

    /** What stands where on the board of four rooks and two kings. */
    private static int homeAt(int square) {
        int side = square / 56;
        boolean rook = square == 0 || square == 7 || square == 56 || square == 63;
        return rook ? 4 + 6 * side : square == 4 || square == 60 ? 6 + 6 * side : 0;
    }

    private static void squaresBetween() {
        CHECKS.sentence("castling: all squares between king and rook are empty");
        for (int right = 0; right < 4; right++) {
            int side = right / 2;
            int king = 4 + 56 * side;
            int first = Math.min(king, ROOKS[right]) + 1;
            int end = Math.max(king, ROOKS[right]);
            for (int square = first; square < end; square++) {
                for (int kind = 2; kind <= 3; kind++) {
                    for (int ofSide = 0; ofSide <= 1; ofSide++) {
                        RuledBoard board = alone(right);
                        board.put(side == 0 ? 50 : 10, 12 - 6 * side);
                        board.put(square, kind + 6 * ofSide);
                        board.begin(side, 1 << right, -1);
                        canCastle(board, right, kind + " of " + ofSide + " on " + square, false);
                    }
                }
            }
        }
    }

    /** A rook of the other side in the middle of a file, so that it hits that square of the home rank. */
    private static RuledBoard hitBy(int right, int file) {
        int side = right / 2;
        RuledBoard board = alone(right);
        board.put(right % 2 == 0 ? 24 : 31, 12 - 6 * side);
        board.put(32 + file, 10 - 6 * side);
        board.begin(side, 1 << right, -1);
        return board;
    }

    private static void notInCheck() {
        CHECKS.sentence("castling: the side is not in check");
        for (int right = 0; right < 4; right++) {
            canCastle(hitBy(right, 4), right, "in check", false);
        }
    }

    private static void squareGoneOver() {
        CHECKS.sentence("castling: the square that the king goes over is not hit by the other side");
        for (int right = 0; right < 4; right++) {
            canCastle(hitBy(right, OVERS[right] % 8), right, "over a hit square", false);
        }
        canCastle(Boards.of("4k3/8/8/8/8/8/6p1/4K2R w K -"), 0, "a pawn hits", false);
        canCastle(Boards.of("4k3/8/8/8/8/8/2p5/R3K3 w Q -"), 1, "a pawn hits", false);
        canCastle(Boards.of("4k3/8/8/8/8/6n1/8/4K2R w K -"), 0, "a knight hits", false);
        canCastle(Boards.of("8/8/8/8/8/8/6k1/4K2R w K -"), 0, "a king hits", false);
        canCastle(Boards.of("8/8/8/8/8/8/2k5/R3K3 w Q -"), 1, "a king hits", false);
        canCastle(Boards.of("4k3/8/8/8/8/8/6P1/4K2R w K -"), 0, "a pawn of its own", true);
        canCastle(Boards.of("4k3/8/8/5r2/8/8/5P2/4K2R w K -"), 0, "a rook behind a pawn", true);
    }

    private static void squareGoneTo() {
        CHECKS.sentence("castling: not to where the own side would be in check");
        for (int right = 0; right < 4; right++) {
            canCastle(hitBy(right, KINGS[right] % 8), right, "to a hit square", false);
        }
        canCastle(Boards.of("4k3/8/8/8/8/8/7p/4K2R w K -"), 0, "a pawn hits", false);
        canCastle(Boards.of("4k3/8/8/8/8/8/1p6/R3K3 w Q -"), 1, "a pawn hits", false);
    }

    private static void otherSquaresHit() {
        CHECKS.sentence("castling: the other squares between, and the rook's, may be hit");
        for (int right = 0; right < 4; right++) {
            canCastle(hitBy(right, ROOKS[right] % 8), right, "the rook is hit", true);
            if (right % 2 == 1) {
                canCastle(hitBy(right, 1), right, "the square beside the rook is hit", true);
            }
            canCastle(hitBy(right, right % 2 == 0 ? 3 : 5), right, "the square on the other hand is hit", true);
        }
    }

    private static void after(String told, String move, int want) {
        RuledBoard board = Boards.of(told);
        int before = board.rights();
        Boards.move(board, move);
        CHECKS.due(told + ": rights() after " + move, board.rights(), want);
        board.undo();
        CHECKS.due(told + ": rights() taken back", board.rights(), before);
    }

    private static void kingMoved() {
        CHECKS.sentence("a right is gone when the king of it was moved");
        for (String move : "e1d1 e1f1 e1d2 e1e2 e1f2 e1g1 e1c1".split(" ")) {
            after(WHITE, move, 12);
        }
        for (String move : "e8d8 e8f8 e8d7 e8e7 e8f7 e8g8 e8c8".split(" ")) {
            after(BLACK, move, 3);
        }
        after("r3k2r/8/8/8/8/8/8/R3K2R w Kkq -", "e1e2", 12);
        after("r3k2r/8/8/8/8/8/8/R3K2R b KQq -", "e8e7", 3);
        after("r3k2r/8/8/8/8/8/4p3/R3K2R w KQkq -", "e1e2", 12);
    }

    private static void rookMoved() {
        CHECKS.sentence("a right is gone when the rook of it was moved");
        after(WHITE, "h1g1", 14);
        after(WHITE, "h1h7", 14);
        after(WHITE, "a1b1", 13);
        after(WHITE, "a1a7", 13);
        after(BLACK, "h8g8", 11);
        after(BLACK, "h8h2", 11);
        after(BLACK, "a8b8", 7);
        after(BLACK, "a8a2", 7);
    }

    private static void wentOffHome() {
        CHECKS.sentence("a right is gone when a piece went off the rook's home square (0, 7, 56, 63)");
        after(WHITE, "h1h8", 10);
        after(WHITE, "a1a8", 5);
        after(BLACK, "h8h1", 10);
        after(BLACK, "a8a1", 5);
        after("r3k2r/8/8/8/8/1n4n1/8/R3K2R b KQkq -", "b3a1", 13);
        after("r3k2r/8/8/8/8/1n4n1/8/R3K2R b KQkq -", "g3h1", 14);
        after("r3k2r/8/1N4N1/8/8/8/8/R3K2R w KQkq -", "b6a8", 7);
        after("r3k2r/8/1N4N1/8/8/8/8/R3K2R w KQkq -", "g6h8", 11);
        after("r3k2r/1P4P1/8/8/8/8/8/R3K2R w KQkq -", "b7a8q", 7);
        after("r3k2r/1P4P1/8/8/8/8/8/R3K2R w KQkq -", "g7h8n", 11);
        after("r3k2r/8/8/8/8/8/1p4p1/R3K2R b KQkq -", "b2a1r", 13);
        after("r3k2r/8/8/8/8/8/1p4p1/R3K2R b KQkq -", "g2h1b", 14);
        CHECKS.sentence("a rook that was taken gives no castling, though another comes to its home");
        RuledBoard board = Boards.of("4k3/8/8/8/8/6n1/7R/4K2R w K -");
        Boards.play(board, "h2h3 g3h1 h3h1 e8e7");
        CHECKS.due("rights()", board.rights(), 0);
        CHECKS.due("at(7)", board.at(7), 4);
        CHECKS.argument("castling", () -> Boards.move(board, "e1g1"));
    }

    private static void rightsStay() {
        CHECKS.sentence("a right stays when another piece was moved");
        after("r3k2r/8/8/3QN3/3bB3/8/8/R3K2R w KQkq -", "e5c6", 15);
        after("r3k2r/8/8/3QN3/3bB3/8/8/R3K2R w KQkq -", "d5d4", 15);
        after("r3k2r/3p4/8/8/8/8/3P4/R3K2R w KQkq -", "d2d4", 15);
        after("r3k2r/3p4/8/8/8/8/3P4/R3K2R b KQkq -", "d7d5", 15);
        after("r3k2r/8/8/R7/7R/8/8/R3K2R w KQkq -", "a5a8", 7);
        after("r3k2r/8/8/R7/7R/8/8/R3K2R w KQkq -", "h4h5", 15);
        after("r3k2r/8/8/8/8/8/8/4K2R w Kkq -", "h1h2", 12);
        after("4k3/8/8/8/8/8/8/R3K1R1 w Q -", "g1h1", 2);
        after("4k3/8/8/8/8/8/8/R3K2R w Q -", "h1g1", 2);
    }

    private static void rightsComeBackByUndoOnly() {
        CHECKS.sentence("a right that is gone stays gone");
        RuledBoard board = Boards.of(WHITE);
        Boards.play(board, "h1h2 h8h7 h2h1 h7h8");
        CHECKS.due("rights() after both rooks went home", board.rights(), 10);
        Boards.play(board, "e1e2 e8e7 e2e1 e7e8");
        CHECKS.due("rights() after both kings went home", board.rights(), 0);
        CHECKS.argument("no castling", () -> Boards.move(board, "e1g1"));
        CHECKS.argument("no castling", () -> Boards.move(board, "e1c1"));
        CHECKS.sentence("a right comes back when the move by which it went is taken back");
        int[] want = {0, 0, 8, 10, 10, 10, 14, 15};
        for (int n = 0; n < want.length; n++) {
            board.undo();
            CHECKS.due("rights() with " + (7 - n) + " made", board.rights(), want[n]);
        }
    }
}
