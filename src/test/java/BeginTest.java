/** Promise 4, begin: each "or" of its sentence, just fulfilled and just not. */
public final class BeginTest {
    private static final Checks CHECKS = new Checks();
    private static final int[] HOMES = {7, 0, 63, 56};

    public static void main(String[] args) {
        answers();
        oneKingEach();
        sixteenPieces();
        pawnsOnRanks();
        otherSideInCheck();
        kingForARight();
        rookForARight();
        passedPawn();
        squaresBehindPawn();
        staysBeingSet();
        CHECKS.finish();
    }

    private static void answers() {
        CHECKS.sentence("begin: answers how many moves there are");
        begins("8/8/8/8/8/5k2/6q1/7K", 0, 0, -1, 0);
        begins("8/8/8/8/8/6k1/5q2/7K", 0, 0, -1, 0);
        begins("7K/8/8/8/8/8/6q1/3k4", 0, 0, -1, 1);
        begins("R6R/3Q4/1Q4Q1/4Q3/2Q4Q/Q4Q2/pp1Q4/kBNN1KB1", 0, 0, -1, 218);
        begins("4k3/8/8/1Pp5/8/8/8/4K3", 0, 0, -1, 6);
        begins("4k3/8/8/1Pp5/8/8/8/4K3", 0, 0, 2, 7);
        begins("4k3/8/8/8/8/8/8/4K2R", 0, 0, -1, 14);
        begins("4k3/8/8/8/8/8/8/4K2R", 0, 1, -1, 15);
        begins("4k3/8/8/8/8/8/8/4K2R", 1, 1, -1, 5);
    }

    private static void oneKingEach() {
        CHECKS.sentence("begin: not just one king of each side");
        int[] whites = {24, 26, 28};
        int[] blacks = {40, 42, 44};
        for (int side = 0; side <= 1; side++) {
            for (int white = 0; white <= 3; white++) {
                for (int black = 0; black <= 3; black++) {
                    RuledBoard board = Boards.set("8/8/8/8/8/8/8/8");
                    putSome(board, whites, white, 6);
                    putSome(board, blacks, black, 12);
                    due(board, white + " and " + black + " kings", side, 0, -1, white == 1 && black == 1);
                }
            }
        }
        CHECKS.sentence("begin: a king is not told by another piece in its place");
        refuses("4q3/8/8/8/8/8/8/4K3", 0, 0, -1);
        refuses("4k3/8/8/8/8/8/8/4Q3", 1, 0, -1);
    }

    private static void putSome(RuledBoard board, int[] squares, int count, int piece) {
        for (int n = 0; n < count; n++) {
            board.put(squares[n], piece);
        }
    }

    /** The other side's king stands in a corner that no piece of these hits, or its side is to move. */
    private static void sixteenPieces() {
        CHECKS.sentence("begin: a side has more than 16 pieces");
        for (int piece = 1; piece <= 5; piece++) {
            for (int count = 14; count <= 18; count++) {
                due(crowd(piece, count, 0), count + " of " + piece + " and a king", 1, 0, -1, count <= 15);
                due(crowd(piece, count, 1), count + " of " + (piece + 6) + " and a king", 0, 0, -1, count <= 15);
            }
        }
        String full = "rnbqkbnr/pppppppp/8/8/8/8/PPPPPPPP/RNBQKBNR";
        begins(full, 0, 15, -1, 20);
        begins(full, 1, 15, -1, 20);
        refuses("rnbqkbnr/pppppppp/8/8/8/N7/PPPPPPPP/RNBQKBNR", 0, 15, -1);
        refuses("rnbqkbnr/pppppppp/8/8/8/N7/PPPPPPPP/RNBQKBNR", 1, 15, -1);
        refuses("rnbqkbnr/pppppppp/n7/8/8/8/PPPPPPPP/RNBQKBNR", 0, 15, -1);
        refuses("rnbqkbnr/pppppppp/n7/8/8/8/PPPPPPPP/RNBQKBNR", 1, 15, -1);
        refuses("rnbqkbnr/pppppppp/n7/8/8/N7/PPPPPPPP/RNBQKBNR", 0, 15, -1);
        RuledBoard board = Boards.set("rnbqkbnr/pppppppp/8/8/8/N7/PPPPPPPP/RNBQKBNR");
        CHECKS.argument("one too many", () -> board.begin(0, 15, -1));
        board.put(16, 0);
        CHECKS.due("and taken off again", board.begin(0, 15, -1), 20);
    }

    private static RuledBoard crowd(int piece, int count, int side) {
        RuledBoard board = Boards.set("8/8/8/8/8/8/8/8");
        board.put(0, 6 + 6 * side);
        board.put(63, 12 - 6 * side);
        for (int n = 0; n < count; n++) {
            board.put(8 + n, piece + 6 * side);
        }
        return board;
    }

    private static void pawnsOnRanks() {
        CHECKS.sentence("begin: a pawn stands on rank 0 or 7");
        for (int square = 0; square < 64; square++) {
            int rank = square / 8;
            for (int piece = 1; piece <= 7; piece += 6) {
                for (int side = 0; side <= 1; side++) {
                    if (rank != 3 && rank != 4 && rank != 5 && rank != 2) {
                        RuledBoard board = Boards.set("8/8/8/8/K6k/8/8/8");
                        board.put(square, piece);
                        due(board, piece + " on " + square, side, 0, -1, rank == 1 || rank == 6);
                    }
                }
            }
        }
        CHECKS.sentence("begin: other pieces may stand on rank 0 or 7");
        begins("n7/8/8/8/K6k/8/8/7N", 0, 0, -1, 7);
        begins("n7/8/8/8/K6k/8/8/7N", 1, 0, -1, 6);
    }

    private static void otherSideInCheck() {
        CHECKS.sentence("begin: the side that is not to move is in check");
        String[] checks = {"4k3/3P4/8/8/8/8/8/K7", "4k3/8/3N4/8/8/8/8/K7", "4k3/8/8/8/B7/8/8/K7",
            "4k3/8/8/8/8/8/8/K3R3", "4k3/8/8/8/8/8/8/K3Q3", "4k3/8/8/8/Q7/8/8/K7", "4k2R/8/8/8/8/8/8/K7"};
        for (String placing : checks) {
            refuses(placing, 0, 0, -1);
            refuses(turned(placing), 1, 0, -1);
            allows(placing, 1, 0, -1);
            allows(turned(placing), 0, 0, -1);
        }
        String[] noChecks = {"4k3/4P3/8/8/8/8/8/K7", "4k3/8/4N3/8/8/8/8/K7", "4k3/8/8/8/R7/8/8/K7",
            "4k3/4p3/8/8/8/8/8/K3R3", "4k3/8/4P3/8/8/8/8/K3Q3", "4k3/3n4/8/8/Q7/8/8/K7", "4k1NR/8/8/8/8/8/8/K7",
            "3Rr1k1/8/8/8/8/8/8/K7", "3k4/8/8/2P5/8/8/8/K7"};
        for (String placing : noChecks) {
            allows(placing, 0, 0, -1);
            allows(turned(placing), 1, 0, -1);
        }
        CHECKS.sentence("begin: both sides are in check");
        for (int side = 0; side <= 1; side++) {
            refuses("k6R/8/8/8/8/8/8/K6r", side, 0, -1);
            refuses("8/8/8/3kK3/8/8/8/8", side, 0, -1);
            refuses("8/8/3k4/4K3/8/8/8/8", side, 0, -1);
            refuses("8/8/3k4/3K4/8/8/8/8", side, 0, -1);
            allows("8/3k4/8/3K4/8/8/8/8", side, 0, -1);
            allows("8/8/8/2k1K3/8/8/8/8", side, 0, -1);
            allows("8/8/8/7k/K7/8/8/8", side, 0, -1);
        }
    }

    private static void kingForARight() {
        CHECKS.sentence("begin: for a right the king is not on file 4");
        for (int right = 0; right < 4; right++) {
            int side = right / 2;
            int rank = 7 * side;
            for (int file = 0; file < 8; file++) {
                int square = 8 * rank + file;
                if (square != HOMES[right]) {
                    RuledBoard board = Boards.set("8/8/8/8/8/8/8/8");
                    board.put(HOMES[right], 4 + 6 * side);
                    board.put(square, 6 + 6 * side);
                    board.put(33 - 8 * side, 12 - 6 * side);
                    due(board, "right " + (1 << right) + ", king on " + square, side, 1 << right, -1, file == 4);
                }
            }
        }
        CHECKS.sentence("begin: for a right the king is on file 4 of another rank");
        for (int rank = 1; rank <= 7; rank++) {
            RuledBoard white = Boards.set("8/8/8/8/8/8/8/8");
            white.put(7, 4);
            white.put(8 * rank + 4, 6);
            white.put(rank < 4 ? 57 : 1, 12);
            due(white, "right 1, king on rank " + rank, rank < 4 ? 0 : 1, 1, -1, false);
            RuledBoard black = Boards.set("8/8/8/8/8/8/8/8");
            black.put(63, 10);
            black.put(60 - 8 * rank, 12);
            black.put(rank < 4 ? 1 : 57, 6);
            due(black, "right 4, king on rank " + (7 - rank), rank < 4 ? 1 : 0, 4, -1, false);
        }
    }

    private static void rookForARight() {
        CHECKS.sentence("begin: for a right the rook is not on its home square");
        for (int missing = 0; missing < 16; missing++) {
            for (int rights = 0; rights < 16; rights++) {
                RuledBoard board = Boards.set("r3k2r/8/8/8/8/8/8/R3K2R");
                for (int right = 0; right < 4; right++) {
                    if ((missing >> right & 1) != 0) {
                        board.put(HOMES[right], 0);
                    }
                }
                due(board, "without " + missing + ", rights " + rights, rights % 2, rights, -1,
                        (missing & rights) == 0);
            }
        }
        CHECKS.sentence("begin: for a right another piece is on the rook's home square");
        for (int right = 0; right < 4; right++) {
            int side = right / 2;
            for (int piece = 0; piece <= 12; piece++) {
                boolean pawnOrKing = piece == 1 || piece == 7 || piece == 6 || piece == 12;
                if (!pawnOrKing) {
                    RuledBoard board = Boards.set(side == 0 ? "8/8/8/1k6/8/8/8/4K3" : "4k3/8/8/8/1K6/8/8/8");
                    board.put(HOMES[right], piece);
                    due(board, "right " + (1 << right) + " with " + piece, side, 1 << right, -1,
                            piece == 4 + 6 * side);
                }
            }
        }
        CHECKS.sentence("begin: a right that isn't asked for needs nothing");
        allows("8/8/8/1k6/8/8/8/3K4", 0, 0, -1);
        allows("8/8/8/1k6/8/8/8/4K3", 0, 0, -1);
    }

    /** A pawn of the side that is not to move, and kings far off its file. */
    private static RuledBoard withPassed(int side, int file) {
        RuledBoard board = Boards.set("8/8/8/8/8/8/8/8");
        board.put(file < 4 ? 7 : 0, 6);
        board.put(file < 4 ? 63 : 56, 12);
        board.put(pawnSquare(side, file), side == 0 ? 7 : 1);
        return board;
    }

    private static int pawnSquare(int side, int file) {
        return file + (side == 0 ? 32 : 24);
    }

    private static void passedPawn() {
        CHECKS.sentence("begin: no pawn of the side that is not to move stands in the passed file on rank 4 (3)");
        for (int side = 0; side <= 1; side++) {
            for (int file = 0; file < 8; file++) {
                String what = "side " + side + ", file " + file;
                int pawn = pawnSquare(side, file);
                due(withPassed(side, file), what, side, 0, file, true);
                for (int other = -1; other <= 7; other++) {
                    due(withPassed(side, file), what + ", passed " + other, side, 0, other,
                            other == -1 || other == file);
                }
                due(withPassed(side, file), what + ", the other side to move", 1 - side, 0, file, false);
                for (int piece = 0; piece <= 12; piece++) {
                    if (piece != 6 && piece != 12) {
                        RuledBoard board = withPassed(side, file);
                        board.put(pawn, piece);
                        boolean inCheck = board.hits(side, file < 4 ? 63 - 56 * side : 56 - 56 * side);
                        due(board, what + " with " + piece, side, 0, file,
                                !inCheck && piece == (side == 0 ? 7 : 1));
                    }
                }
                for (int rank = 1; rank <= 6; rank++) {
                    RuledBoard board = withPassed(side, file);
                    board.put(pawn, 0);
                    board.put(8 * rank + file, side == 0 ? 7 : 1);
                    due(board, what + ", pawn on rank " + rank, side, 0, file, rank == pawn / 8);
                }
            }
        }
    }

    private static void squaresBehindPawn() {
        CHECKS.sentence("begin: one of the two squares behind that pawn is not empty");
        int[] pieces = {1, 2, 7, 8};
        for (int side = 0; side <= 1; side++) {
            int behind = side == 0 ? 8 : -8;
            for (int file = 0; file < 8; file++) {
                for (int piece : pieces) {
                    String what = "side " + side + ", file " + file + ", " + piece;
                    for (int steps = 1; steps <= 2; steps++) {
                        RuledBoard board = withPassed(side, file);
                        board.put(pawnSquare(side, file) + steps * behind, piece);
                        due(board, what + " behind by " + steps, side, 0, file, false);
                    }
                    RuledBoard ahead = withPassed(side, file);
                    ahead.put(pawnSquare(side, file) - behind, piece);
                    due(ahead, what + " ahead", side, 0, file, true);
                    if (piece == 2 || piece == 8) {
                        RuledBoard far = withPassed(side, file);
                        far.put(pawnSquare(side, file) + 3 * behind, piece);
                        due(far, what + " behind by 3", side, 0, file, true);
                    }
                }
            }
        }
        CHECKS.sentence("begin: the squares beside those behind don't matter");
        allows("4k3/1n1n4/1n1n4/2p5/8/8/8/4K3", 0, 0, 2);
        refuses("4k3/1n1n4/1nnn4/2p5/8/8/8/4K3", 0, 0, 2);
    }

    private static void staysBeingSet() {
        CHECKS.sentence("begin: it stays being set");
        RuledBoard board = Boards.set("r3k2r/8/8/8/8/8/8/R3K2R");
        for (int n = 0; n < 3; n++) {
            CHECKS.argument("begin with a passed file", () -> board.begin(0, 15, 3));
            CHECKS.due("side()", board.side(), -1);
            CHECKS.due("rights()", board.rights(), 0);
            CHECKS.due("passed()", board.passed(), -1);
            CHECKS.due("put", board.put(20, n), Math.max(0, n - 1));
        }
        board.put(20, 0);
        CHECKS.due("begin", board.begin(0, 15, -1), 26);
        CHECKS.state("begin again", () -> board.begin(0, 15, -1));
    }

    /** The same board seen from the other side: upside down, and each piece of the other side. */
    private static String turned(String placing) {
        String[] ranks = placing.split("/");
        StringBuilder text = new StringBuilder();
        for (int n = ranks.length - 1; n >= 0; n--) {
            for (char c : ranks[n].toCharArray()) {
                text.append(Character.isUpperCase(c) ? Character.toLowerCase(c) : Character.toUpperCase(c));
            }
            text.append(n == 0 ? "" : "/");
        }
        return text.toString();
    }

    private static void begins(String placing, int side, int rights, int passed, int count) {
        CHECKS.due("begin of " + placing, Boards.set(placing).begin(side, rights, passed), count);
    }

    private static void allows(String placing, int side, int rights, int passed) {
        due(Boards.set(placing), placing, side, rights, passed, true);
    }

    private static void refuses(String placing, int side, int rights, int passed) {
        due(Boards.set(placing), placing, side, rights, passed, false);
    }

    private static void due(RuledBoard board, String what, int side, int rights, int passed, boolean allowed) {
        String call = what + ": begin(" + side + ", " + rights + ", " + passed + ")";
        if (!allowed) {
            String before = Boards.look(board);
            CHECKS.argument(call, () -> board.begin(side, rights, passed));
            CHECKS.dueText(call + " changed nothing", Boards.look(board), before);
            int stood = board.at(30);
            CHECKS.dueText(call + ", still being set", Checks.told(() -> board.put(30, 0)), Integer.toString(stood));
            return;
        }
        CHECKS.dueText(call, Checks.told(() -> board.begin(side, rights, passed)),
                Checks.told(() -> board.moves()));
        CHECKS.due(call + ", side()", board.side(), side);
        CHECKS.due(call + ", rights()", board.rights(), rights);
        CHECKS.due(call + ", passed()", board.passed(), passed);
        CHECKS.dueText(call + ", made(), quiet(), seen()",
                board.made() + " " + Checks.told(() -> board.quiet()) + " " + Checks.told(() -> board.seen()),
                "0 0 1");
    }
}
