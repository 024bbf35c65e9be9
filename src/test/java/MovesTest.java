/** Promises 5, 12 and 13: move, moves, nth, and the moves of the section "Terms". */
public final class MovesTest {
    private static final Checks CHECKS = new Checks();

    public static void main(String[] args) {
        order();
        pieces();
        pawns();
        promotion();
        passing();
        castling();
        castlingRefused();
        rightsGo();
        ownCheck();
        movesRefused();
        limit();
        CHECKS.finish();
    }

    private static void list(String told, String from, String want) {
        CHECKS.dueText(told + ": " + from, Boards.movesOf(Boards.of(told), from), want);
    }

    private static void order() {
        RuledBoard board = new RuledBoard();
        CHECKS.dueText("moves at the beginning", Boards.moves(board),
                "b1a3 b1c3 g1f3 g1h3 a2a3 a2a4 b2b3 b2b4 c2c3 c2c4 d2d3 d2d4 e2e3 e2e4 f2f3 f2f4 g2g3 g2g4"
                        + " h2h3 h2h4");
        CHECKS.due("nth(0)", board.nth(0), 1 + 64 * 16);
        CHECKS.argument("nth(-1)", () -> board.nth(-1));
        CHECKS.argument("nth(20)", () -> board.nth(20));
        CHECKS.argument("nth(max)", () -> board.nth(Integer.MAX_VALUE));
        CHECKS.argument("nth(min)", () -> board.nth(Integer.MIN_VALUE));
        RuledBoard rich = Boards.of("rn2k3/P1P5/8/8/8/8/8/R3K2R w KQ -");
        int last = -1;
        for (int k = 0; k < rich.moves(); k++) {
            int code = rich.nth(k);
            int rank = (code & 63) << 9 | (code >> 6 & 63) << 3 | code >> 12;
            CHECKS.due("nth(" + k + ") comes behind the one before", rank > last, true);
            last = rank;
        }
        RuledBoard set = Boards.set("4k3/8/8/8/8/8/8/4K3");
        CHECKS.state("moves() being set", () -> set.moves());
        CHECKS.state("nth(0) being set", () -> set.nth(0));
        CHECKS.state("nth(-1) being set", () -> set.nth(-1));
        RuledBoard mated = Boards.of("R5k1/5ppp/8/8/8/8/8/6K1 b - -");
        CHECKS.due("moves() in mate", mated.moves(), 0);
        CHECKS.argument("nth(0) in mate", () -> mated.nth(0));
    }

    private static void pieces() {
        list("k7/8/8/8/8/8/8/N6K w - -", "a1", "a1c2 a1b3");
        list("k7/8/8/8/3N4/8/8/7K w - -", "d4", "d4c2 d4e2 d4b3 d4f3 d4b5 d4f5 d4c6 d4e6");
        list("k7/8/2p1P3/8/3N4/8/8/7K w - -", "d4", "d4c2 d4e2 d4b3 d4f3 d4b5 d4f5 d4c6");
        list("k7/8/1p6/8/3B4/2P5/8/7K w - -", "d4", "d4g1 d4f2 d4e3 d4c5 d4e5 d4b6 d4f6 d4g7 d4h8");
        list("k7/3p4/8/8/1P1R4/8/8/7K w - -", "d4",
                "d4d1 d4d2 d4d3 d4c4 d4e4 d4f4 d4g4 d4h4 d4d5 d4d6 d4d7");
        list("7k/8/8/8/8/8/PP6/QN5K w - -", "a1", "");
        list("7k/8/8/8/8/8/Pp6/QN5K w - -", "a1", "a1b2");
        list("8/7k/8/8/8/8/8/Q6K w - -", "a1",
                "a1b1 a1c1 a1d1 a1e1 a1f1 a1g1 a1a2 a1b2 a1a3 a1c3 a1a4 a1d4 a1a5 a1e5 a1a6 a1f6 a1a7 a1g7"
                        + " a1a8 a1h8");
        list("7k/8/8/8/3K4/8/8/8 w - -", "d4", "d4c3 d4d3 d4e3 d4c4 d4e4 d4c5 d4d5 d4e5");
        list("7k/8/8/8/8/8/8/K7 w - -", "a1", "a1b1 a1a2 a1b2");
        list("8/8/8/8/8/8/6k1/K7 b - -", "g2", "g2f1 g2g1 g2h1 g2f2 g2h2 g2f3 g2g3 g2h3");
    }

    private static void pawns() {
        list("4k3/8/8/8/8/8/4P3/4K3 w - -", "e2", "e2e3 e2e4");
        list("4k3/8/8/8/8/4P3/8/4K3 w - -", "e3", "e3e4");
        list("4k3/8/8/8/4n3/8/4P3/4K3 w - -", "e2", "e2e3");
        list("4k3/8/8/8/8/4n3/4P3/5K2 w - -", "e2", "");
        list("4k3/8/8/8/8/3nNn2/4P3/K7 w - -", "e2", "e2d3 e2f3");
        list("4k3/8/8/8/8/3N1b2/4P3/K7 w - -", "e2", "e2e3 e2f3 e2e4");
        list("4k3/8/8/8/8/1p5p/P7/K7 w - -", "a2", "a2a3 a2b3 a2a4");
        list("4k3/8/8/8/p7/6pp/7P/K7 w - -", "h2", "h2g3");
        list("4k3/4p3/8/8/8/8/8/4K3 b - -", "e7", "e7e5 e7e6");
        list("4k3/8/4p3/8/8/8/8/4K3 b - -", "e6", "e6e5");
        list("7k/4p3/3N1N2/4N3/8/8/8/4K3 b - -", "e7", "e7d6 e7e6 e7f6");
        list("7k/4p3/3N1N2/8/8/8/8/4K3 b - -", "e7", "e7e5 e7d6 e7e6 e7f6");
        list("7k/p7/1P5P/8/8/8/8/4K3 b - -", "a7", "a7a5 a7a6 a7b6");
        list("4k3/7p/P5P1/8/8/8/8/4K3 b - -", "h7", "h7h5 h7g6 h7h6");
        RuledBoard board = new RuledBoard();
        Boards.move(board, "e2e4");
        CHECKS.due("passed after two ranks", board.passed(), 4);
        Boards.move(board, "d7d6");
        CHECKS.due("none after one rank", board.passed(), -1);
        Boards.play(board, "e4e5 d6d5");
        CHECKS.due("none after twice one rank", board.passed(), -1);
        CHECKS.argument("passing without a passed file", () -> Boards.move(board, "e5d6"));
        Boards.move(board, "b1c3");
        CHECKS.due("none after a knight's move", board.passed(), -1);
    }

    private static void promotion() {
        list("1n2k3/P7/8/8/8/8/8/4K3 w - -", "a7", "a7a8n a7a8b a7a8r a7a8q a7b8n a7b8b a7b8r a7b8q");
        list("4k3/8/8/8/8/8/p7/1N2K3 b - -", "a2", "a2a1n a2a1b a2a1r a2a1q a2b1n a2b1b a2b1r a2b1q");
        for (int promotion = 2; promotion <= 5; promotion++) {
            RuledBoard white = Boards.of("1n2k3/P7/8/8/8/8/8/4K3 w - -");
            white.move(48, 57, promotion);
            CHECKS.due("white becomes", white.at(57), promotion);
            CHECKS.due("and is gone", white.at(48), 0);
            white.undo();
            CHECKS.due("pawn again", white.at(48), 1);
            CHECKS.due("taken piece again", white.at(57), 8);
            RuledBoard black = Boards.of("4k3/8/8/8/8/8/p7/1N2K3 b - -");
            black.move(8, 0, promotion);
            CHECKS.due("black becomes", black.at(0), promotion + 6);
            black.undo();
            CHECKS.due("black pawn again", black.at(8), 7);
            CHECKS.due("empty again", black.at(0), 0);
        }
        RuledBoard board = Boards.of("4k3/P7/8/8/8/8/7P/4K3 w - -");
        int[] wrong = {Integer.MIN_VALUE, -1, 0, 1, 6, 7, 8, 10, 11, Integer.MAX_VALUE};
        for (int promotion : wrong) {
            CHECKS.argument("promotion " + promotion, () -> board.move(48, 56, promotion));
        }
        CHECKS.argument("promotion of a pawn not at the end", () -> board.move(15, 23, 5));
        CHECKS.argument("promotion of a king", () -> board.move(4, 5, 5));
        CHECKS.due("nothing was made", board.made(), 0);
    }

    private static void passing() {
        list("4k3/8/8/1PpP4/8/8/8/4K3 w - c", "b5", "b5b6 b5c6");
        list("4k3/8/8/1PpP4/8/8/8/4K3 w - c", "d5", "d5c6 d5d6");
        list("4k3/8/8/1PpP4/8/8/8/4K3 w - -", "d5", "d5d6");
        list("4k3/8/8/8/2pPp3/8/8/4K3 b - d", "c4", "c4c3 c4d3");
        list("4k3/8/8/8/2pPp3/8/8/4K3 b - d", "e4", "e4d3 e4e3");
        list("4k3/8/8/Pp6/8/8/8/4K3 w - b", "a5", "a5a6 a5b6");
        list("4k3/8/8/6pP/8/8/8/4K3 w - g", "h5", "h5g6 h5h6");
        list("4k3/8/8/pP5P/8/8/8/4K3 w - a", "h5", "h5h6");
        list("4k3/8/8/pP5P/8/8/8/4K3 w - a", "b5", "b5a6 b5b6");
        list("4k3/8/8/P6p/8/8/8/4K3 w - h", "a5", "a5a6");
        list("4k3/8/P7/7p/8/8/8/4K3 w - h", "a6", "a6a7");
        list("4k3/8/8/1NpB4/8/8/8/4K3 w - c", "d5", Boards.movesOf(
                Boards.of("4k3/8/8/1NpB4/8/8/8/4K3 w - -"), "d5"));
        RuledBoard board = new RuledBoard();
        Boards.play(board, "e2e4 a7a6 e4e5 d7d5");
        CHECKS.due("made by passing", Boards.move(board, "e5d6"), 5);
        CHECKS.due("pawn there", board.at(Boards.square("d6")), 1);
        CHECKS.due("pawn gone", board.at(Boards.square("d5")), 0);
        CHECKS.due("from empty", board.at(Boards.square("e5")), 0);
        board.undo();
        CHECKS.due("pawn back", board.at(Boards.square("d5")), 7);
        CHECKS.due("target empty", board.at(Boards.square("d6")), 0);
        CHECKS.due("own pawn back", board.at(Boards.square("e5")), 1);
        CHECKS.due("passed again", board.passed(), 3);
        Boards.play(board, "a2a3 h7h6");
        CHECKS.argument("passing a move later", () -> Boards.move(board, "e5d6"));
        RuledBoard black = Boards.of("4k3/8/8/8/2p5/8/3P4/4K3 w - -");
        Boards.play(black, "d2d4 c4d3");
        CHECKS.due("black by passing", black.at(Boards.square("d4")), 0);
        black.undo();
        CHECKS.due("white's pawn back", black.at(Boards.square("d4")), 1);
        CHECKS.due("black's pawn back", black.at(Boards.square("c4")), 7);
        list("8/8/8/KPp4r/8/8/8/4k3 w - c", "b5", "b5b6");
        list("8/8/8/1Pp4r/8/K7/8/4k3 w - c", "b5", "b5b6 b5c6");
        list("4k3/8/8/1Pp5/3K4/8/8/8 w - c", "b5", "b5c6");
    }

    private static void castling() {
        list("r3k2r/8/8/8/8/8/8/R3K2R w KQkq -", "e1", "e1c1 e1d1 e1f1 e1g1 e1d2 e1e2 e1f2");
        list("r3k2r/8/8/8/8/8/8/R3K2R b KQkq -", "e8", "e8d7 e8e7 e8f7 e8c8 e8d8 e8f8 e8g8");
        list("r3k2r/8/8/8/8/8/8/R3K2R w Kkq -", "e1", "e1d1 e1f1 e1g1 e1d2 e1e2 e1f2");
        list("r3k2r/8/8/8/8/8/8/R3K2R w Qkq -", "e1", "e1c1 e1d1 e1f1 e1d2 e1e2 e1f2");
        list("r3k2r/8/8/8/8/8/8/R3K2R b KQk -", "e8", "e8d7 e8e7 e8f7 e8d8 e8f8 e8g8");
        list("r3k2r/8/8/8/8/8/8/R3K2R b KQq -", "e8", "e8d7 e8e7 e8f7 e8c8 e8d8 e8f8");
        list("r3k2r/8/8/8/8/8/8/R3K2R w - -", "e1", "e1d1 e1f1 e1d2 e1e2 e1f2");
        castled("r3k2r/8/8/8/8/8/8/R3K2R w KQkq -", "e1g1", "f1", "h1", 12);
        castled("r3k2r/8/8/8/8/8/8/R3K2R w KQkq -", "e1c1", "d1", "a1", 12);
        castled("r3k2r/8/8/8/8/8/8/R3K2R b KQkq -", "e8g8", "f8", "h8", 3);
        castled("r3k2r/8/8/8/8/8/8/R3K2R b KQkq -", "e8c8", "d8", "a8", 3);
    }

    private static void castled(String told, String move, String rook, String corner, int rights) {
        RuledBoard board = Boards.of(told);
        String before = Boards.look(board);
        int side = board.side();
        Boards.move(board, move);
        CHECKS.due(move + ": king", board.at(Boards.square(move.substring(2))), 6 + 6 * side);
        CHECKS.due(move + ": king gone", board.at(Boards.square(move.substring(0, 2))), 0);
        CHECKS.due(move + ": rook", board.at(Boards.square(rook)), 4 + 6 * side);
        CHECKS.due(move + ": corner", board.at(Boards.square(corner)), 0);
        CHECKS.due(move + ": rights", board.rights(), rights);
        CHECKS.due(move + ": quiet", board.quiet(), 1);
        board.undo();
        CHECKS.dueText(move + " taken back", Boards.look(board), before);
    }

    private static void castlingRefused() {
        noCastling("4k3/8/8/8/8/8/8/R2QKB1R w KQ -", "e1g1 e1c1");
        noCastling("4k3/8/8/8/8/8/8/RN2K1NR w KQ -", "e1g1 e1c1");
        noCastling("4k3/8/8/8/8/8/8/R1B1K2R w Q -", "e1c1");
        noCastling("4k3/8/8/8/8/8/8/Rn2K2R w Q -", "e1c1");
        noCastling("4k3/4r3/8/8/8/8/8/R3K2R w KQ -", "e1g1 e1c1");
        noCastling("4k3/5r2/8/8/8/8/8/R3K2R w KQ -", "e1g1");
        noCastling("4k3/6r1/8/8/8/8/8/R3K2R w KQ -", "e1g1");
        noCastling("4k3/3r4/8/8/8/8/8/R3K2R w KQ -", "e1c1");
        noCastling("4k3/2r5/8/8/8/8/8/R3K2R w KQ -", "e1c1");
        noCastling("4k3/8/8/8/8/8/6p1/R3K2R w KQ -", "e1g1");
        noCastling("4k3/8/8/8/8/8/1p6/R3K2R w KQ -", "e1c1");
        noCastling("r3k2r/8/8/8/8/8/8/3RKR2 b kq -", "e8g8 e8c8");
        canCastle("4k3/1r6/8/8/8/8/8/R3K2R w KQ -", "e1c1");
        canCastle("4k3/r7/8/8/8/8/8/R3K2R w KQ -", "e1c1");
        canCastle("4k3/7r/8/8/8/8/8/R3K2R w KQ -", "e1g1");
        canCastle("r3k2r/8/8/8/8/8/8/1R2K2R b kq -", "e8g8");
        canCastle("r3k2r/8/8/8/8/8/8/1R2K2R b kq -", "e8c8");
    }

    private static void noCastling(String told, String moves) {
        for (String move : moves.split(" ")) {
            RuledBoard board = Boards.of(told);
            String before = Boards.look(board);
            CHECKS.argument(told + ": " + move, () -> Boards.move(board, move));
            CHECKS.dueText(told + ": unchanged", Boards.look(board), before);
        }
    }

    private static void canCastle(String told, String move) {
        CHECKS.due(told + ": " + move, Boards.move(Boards.of(told), move), 1);
    }

    private static void rightsGo() {
        rightsAfter("r3k2r/8/8/8/8/8/8/R3K2R w KQkq -", "e1e2", 12);
        rightsAfter("r3k2r/8/8/8/8/8/8/R3K2R w KQkq -", "h1h2", 14);
        rightsAfter("r3k2r/8/8/8/8/8/8/R3K2R w KQkq -", "a1a2", 13);
        rightsAfter("r3k2r/8/8/8/8/8/8/R3K2R w KQkq -", "h1h8", 10);
        rightsAfter("r3k2r/8/8/8/8/8/8/R3K2R w KQkq -", "a1a8", 5);
        rightsAfter("r3k2r/8/8/8/8/8/8/R3K2R b KQkq -", "e8e7", 3);
        rightsAfter("r3k2r/8/8/8/8/8/8/R3K2R b KQkq -", "h8h7", 11);
        rightsAfter("r3k2r/8/8/8/8/8/8/R3K2R b KQkq -", "a8b8", 7);
        rightsAfter("r3k2r/8/6N1/8/8/8/8/R3K2R w KQkq -", "g6h8", 11);
        rightsAfter("r3k2r/8/8/8/8/1n6/8/R3K2R b KQkq -", "b3a1", 13);
        rightsAfter("r3k2r/8/8/8/8/8/6p1/R3K2R b KQkq -", "g2h1q", 14);
        rightsAfter("r3k2r/1P6/8/8/8/8/8/R3K2R w KQkq -", "b7a8n", 7);
        rightsAfter("r3k2r/8/8/4N3/8/8/8/R3K2R w KQkq -", "e5c6", 15);
        RuledBoard board = Boards.of("r3k2r/8/8/8/8/8/8/R3K2R w KQkq -");
        Boards.play(board, "h1h2 a8a7 h2h1 a7a8");
        CHECKS.due("a right does not come back by moves", board.rights(), 6);
        CHECKS.argument("so no castling", () -> Boards.move(board, "e1g1"));
        for (int n = 0; n < 4; n++) {
            board.undo();
        }
        CHECKS.due("but by taking them back", board.rights(), 15);
    }

    private static void rightsAfter(String told, String move, int want) {
        RuledBoard board = Boards.of(told);
        int before = board.rights();
        Boards.move(board, move);
        CHECKS.due(told + ": rights after " + move, board.rights(), want);
        board.undo();
        CHECKS.due(told + ": rights before " + move, board.rights(), before);
    }

    private static void ownCheck() {
        list("4r2k/8/8/8/8/8/4N3/4K3 w - -", "e2", "");
        list("4r2k/8/8/8/8/8/4R3/4K3 w - -", "e2", "e2e3 e2e4 e2e5 e2e6 e2e7 e2e8");
        list("7k/8/8/b7/8/8/3P4/4K3 w - -", "d2", "");
        list("4r2k/8/8/8/8/8/3P1P2/3RKR2 w - -", "e1", "");
        list("4r2k/8/8/8/8/8/3PBP2/3RKR2 w - -", "e2", "");
        CHECKS.dueText("out of check only", Boards.moves(Boards.of("7k/8/8/8/4r3/8/3P4/R2QK2B w - -")),
                "d1e2 e1f1 e1f2 h1e4");
        CHECKS.dueText("double check: the king alone",
                Boards.moves(Boards.of("4r2k/8/8/8/8/3n4/Q7/4K3 w - -")), "e1d1 e1f1 e1d2");
        CHECKS.dueText("kings keep apart", Boards.moves(Boards.of("8/8/8/3k4/8/3K4/8/8 w - -")),
                "d3c2 d3d2 d3e2 d3c3 d3e3");
    }

    private static void movesRefused() {
        RuledBoard board = new RuledBoard();
        Boards.move(board, "e2e4");
        String before = Boards.look(board);
        CHECKS.argument("a piece of the other side", () -> Boards.move(board, "d2d4"));
        CHECKS.argument("an empty square", () -> Boards.move(board, "e5e4"));
        CHECKS.argument("onto an own piece", () -> Boards.move(board, "a8a7"));
        CHECKS.argument("over a piece", () -> Boards.move(board, "a8a5"));
        CHECKS.argument("nowhere", () -> Boards.move(board, "e7e7"));
        CHECKS.argument("from -1", () -> board.move(-1, 40, 0));
        CHECKS.argument("from 64", () -> board.move(64, 40, 0));
        CHECKS.argument("to -1", () -> board.move(48, -1, 0));
        CHECKS.argument("to 64", () -> board.move(48, 64, 0));
        CHECKS.argument("from told by to", () -> board.move(48 + 64, 39, 0));
        CHECKS.argument("to told by promotion", () -> board.move(48, 40 - 64, 1));
        CHECKS.argument("far off", () -> board.move(Integer.MIN_VALUE, Integer.MAX_VALUE, 0));
        CHECKS.argument("promotion", () -> board.move(48, 40, 5));
        CHECKS.argument("a promotion that wraps around to none", () -> board.move(48, 40, 1 << 20));
        CHECKS.argument("squares that wrap around", () -> board.move(48, 40 + (1 << 26), 0));
        CHECKS.dueText("nothing changed", Boards.look(board), before);
        CHECKS.due("and a move goes on", board.move(48, 40, 0), 2);
        RuledBoard set = Boards.set("4k3/8/8/8/8/8/8/4K3");
        CHECKS.state("move being set", () -> set.move(4, 5, 0));
        CHECKS.state("wrong move being set", () -> set.move(64, 64, 9));
        RuledBoard mated = Boards.of("R5k1/5ppp/8/8/8/8/8/6K1 b - -");
        CHECKS.argument("move in mate", () -> Boards.move(mated, "g8f8"));
    }

    private static void limit() {
        RuledBoard board = new RuledBoard();
        String[] round = {"g1f3", "g8f6", "f3g1", "f6g8"};
        for (int n = 1; n <= 150; n++) {
            CHECKS.due("move " + n, Boards.move(board, round[(n - 1) % 4]), n);
        }
        String before = Boards.look(board);
        CHECKS.state("move 151", () -> Boards.move(board, "f3g1"));
        CHECKS.state("a wrong move 151", () -> board.move(64, 64, 9));
        CHECKS.dueText("nothing changed", Boards.look(board), before);
        CHECKS.due("quiet() at the limit", board.quiet(), 150);
        CHECKS.due("seen() at the limit", board.seen(), 38);
        CHECKS.due("mate(2) at the limit", board.mate(2), 0);
        CHECKS.due("moves() at the limit", board.moves() > 0, true);
        CHECKS.due("undo", board.undo(), 149);
        CHECKS.due("and again to the limit", Boards.move(board, "g8f6"), 150);
    }
}
