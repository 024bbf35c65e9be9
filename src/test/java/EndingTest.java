/** Promises 14 to 17: check, ending, quiet, seen. */
public final class EndingTest {
    private static final Checks CHECKS = new Checks();

    public static void main(String[] args) {
        endings();
        refusedWhileSet();
        quietMoves();
        seenAgain();
        seenByRights();
        seenByPassing();
        seenByPinnedPassing();
        seenFromBeginning();
        CHECKS.finish();
    }

    private static void ends(String told, boolean check, int ending) {
        RuledBoard board = Boards.of(told);
        CHECKS.due(told + ": check()", board.check(), check);
        CHECKS.due(told + ": ending()", board.ending(), ending);
    }

    private static void endings() {
        ends(Boards.START, false, 0);
        ends("4k3/8/8/8/8/8/4r3/4K3 w - -", true, 0);
        ends("R5k1/5ppp/8/8/8/8/8/6K1 b - -", true, 1);
        ends("R5k1/5pp1/8/8/8/8/8/6K1 b - -", true, 0);
        ends("k7/2Q5/1K6/8/8/8/8/8 b - -", false, 2);
        ends("k7/2Q5/1K6/7p/8/8/8/8 b - -", false, 0);
        ends("k7/1Q6/1K6/8/8/8/8/8 b - -", true, 1);
        ends("8/8/8/8/8/5k2/5p2/5K2 w - -", false, 2);
        ends("6rk/5Npp/8/8/8/8/8/6K1 b - -", true, 1);
        ends("4k3/8/8/8/8/8/3p4/4K3 w - -", true, 0);
        ends("4k3/3P4/8/8/8/8/8/4K3 b - -", true, 0);
        ends("4k3/4P3/8/8/8/8/8/4K3 b - -", false, 0);
        ends("4k3/8/3N4/8/8/8/8/4K3 b - -", true, 0);
        ends("4k3/8/8/8/B7/8/8/4K3 b - -", true, 0);
        ends("4k3/3p4/8/8/B7/8/8/4K3 b - -", false, 0);
        // The only way out of check is by passing.
        ends("8/8/8/1k6/2Pp4/8/8/6K1 b - c", true, 0);
        RuledBoard board = new RuledBoard();
        Boards.play(board, "f2f3 e7e5 g2g4 d8h4");
        CHECKS.due("fool's mate", board.ending(), 1);
        board.undo();
        CHECKS.due("taken back", board.ending(), 0);
    }

    private static void refusedWhileSet() {
        RuledBoard board = Boards.set("4k3/8/8/8/8/8/4r3/4K3");
        CHECKS.state("check() being set", () -> board.check() ? 1 : 0);
        CHECKS.state("ending() being set", () -> board.ending());
        CHECKS.state("quiet() being set", () -> board.quiet());
        CHECKS.state("seen() being set", () -> board.seen());
    }

    private static void quietAfter(RuledBoard board, String move, int want) {
        Boards.move(board, move);
        CHECKS.due("quiet() after " + move, board.quiet(), want);
    }

    private static void quietMoves() {
        RuledBoard board = Boards.of("r3k2r/3p4/8/4P2P/8/8/8/R3K2R w KQkq -");
        quietAfter(board, "e1g1", 1);
        quietAfter(board, "e8c8", 2);
        quietAfter(board, "g1g2", 3);
        quietAfter(board, "d7d5", 0);
        quietAfter(board, "g2g3", 1);
        quietAfter(board, "h8h7", 2);
        quietAfter(board, "a1a7", 3);
        quietAfter(board, "h7a7", 0);
        quietAfter(board, "g3g4", 1);
        quietAfter(board, "a7g7", 2);
        board.undo();
        CHECKS.due("quiet() taken back", board.quiet(), 1);
        board.undo();
        CHECKS.due("quiet() taken back", board.quiet(), 0);
        board.undo();
        CHECKS.due("quiet() taken back", board.quiet(), 3);
        RuledBoard passing = Boards.of("4k3/8/8/1Pp5/8/8/8/4K3 w - c");
        quietAfter(passing, "e1e2", 1);
        passing.undo();
        quietAfter(passing, "b5c6", 0);
        RuledBoard promoting = Boards.of("4k3/P7/8/8/8/8/8/4K3 w - -");
        quietAfter(promoting, "e1e2", 1);
        quietAfter(promoting, "e8e7", 2);
        quietAfter(promoting, "a7a8r", 0);
        quietAfter(promoting, "e7d7", 1);
        quietAfter(promoting, "a8a1", 2);
    }

    private static void seenAfter(RuledBoard board, String moves, int want) {
        Boards.play(board, moves);
        CHECKS.due("seen() after " + moves, board.seen(), want);
    }

    private static void seenAgain() {
        RuledBoard board = new RuledBoard();
        seenAfter(board, "g1f3", 1);
        seenAfter(board, "g8f6", 1);
        seenAfter(board, "f3g1", 1);
        seenAfter(board, "f6g8", 2);
        seenAfter(board, "g1f3", 2);
        board.undo();
        CHECKS.due("seen() after one taken back", board.seen(), 2);
        seenAfter(board, "b1c3", 1);
        board.undo();
        seenAfter(board, "g1f3", 2);
        seenAfter(board, "g8f6 f3g1 f6g8", 3);
        board.undo();
        board.undo();
        board.undo();
        board.undo();
        CHECKS.due("seen() after four taken back", board.seen(), 2);
        // The same squares and rights with the other side to move are another position.
        RuledBoard other = Boards.of("4k3/8/8/8/8/8/8/R3K3 w - -");
        seenAfter(other, "a1a3 e8e7 a3a2 e7e8 a2a1", 1);
        // So they are with other rights and the other side at once.
        RuledBoard both = Boards.of("4k3/8/8/8/8/8/8/4K2R w K -");
        seenAfter(both, "h1h3 e8e7 h3h2 e7e8 h2h1", 1);
        // The same kind of piece on the same square is the same position.
        RuledBoard twins = Boards.of("4k3/8/8/8/8/8/8/R3K2R w - -");
        seenAfter(twins, "a1a2 e8e7 h1h2 e7e8 a2a1 e8e7 h2h1 e7e8", 2);
        RuledBoard swapped = Boards.of("4k3/8/8/8/8/8/4K3/NN6 w - -");
        seenAfter(swapped, "a1c2 e8e7 b1c3 e7e8 c2b4 e8e7 c3a2 e7e8 b4d3 e8e7 a2c1 e7e8", 1);
    }

    private static void seenByRights() {
        RuledBoard board = Boards.of("4k3/8/8/8/8/8/8/R3K2R w KQ -");
        seenAfter(board, "h1h2 e8e7 h2h1 e7e8", 1);
        seenAfter(board, "h1h2 e8e7 h2h1 e7e8", 2);
        seenAfter(board, "a1a2 e8e7 a2a1 e7e8", 1);
        RuledBoard king = Boards.of("4k3/8/8/8/8/8/8/R3K2R w KQ -");
        seenAfter(king, "e1e2 e8e7 e2e1 e7e8", 1);
        RuledBoard none = Boards.of("4k3/8/8/8/8/8/8/R3K2R w - -");
        seenAfter(none, "e1e2 e8e7 e2e1 e7e8", 2);
    }

    private static void seenByPassing() {
        RuledBoard can = Boards.of("4k3/8/8/1Pp5/8/8/8/4K3 w - c");
        seenAfter(can, "e1e2 e8e7 e2e1 e7e8", 1);
        seenAfter(can, "e1e2 e8e7 e2e1 e7e8", 2);
        RuledBoard first = Boards.of("4k3/8/8/Pp6/8/8/8/4K3 w - b");
        seenAfter(first, "e1e2 e8e7 e2e1 e7e8", 1);
        RuledBoard last = Boards.of("4k3/8/8/6pP/8/8/8/4K3 w - g");
        seenAfter(last, "e1e2 e8e7 e2e1 e7e8", 1);
        RuledBoard corner = Boards.of("4k3/8/8/pP6/8/8/8/4K3 w - a");
        seenAfter(corner, "e1e2 e8e7 e2e1 e7e8", 1);
        RuledBoard nobody = Boards.of("4k3/8/8/2p5/8/8/8/4K3 w - c");
        seenAfter(nobody, "e1e2 e8e7 e2e1 e7e8", 2);
        RuledBoard border = Boards.of("4k3/8/8/p6P/8/8/8/4K3 w - a");
        seenAfter(border, "e1e2 e8e7 e2e1 e7e8", 2);
        RuledBoard black = Boards.of("4k3/8/8/8/6pP/8/8/4K3 b - h");
        seenAfter(black, "e8e7 e1e2 e7e8 e2e1", 1);
        RuledBoard other = Boards.of("4k3/8/8/8/5p1P/8/8/4K3 b - h");
        seenAfter(other, "e8e7 e1e2 e7e8 e2e1", 2);
        RuledBoard game = new RuledBoard();
        Boards.play(game, "e2e4 g8f6 e4e5 d7d5");
        seenAfter(game, "b1c3 f6g8 c3b1 g8f6", 1);
        seenAfter(game, "b1c3 f6g8 c3b1 g8f6", 2);
        RuledBoard idle = new RuledBoard();
        Boards.play(idle, "e2e4");
        seenAfter(idle, "g8f6 g1f3 f6g8 f3g1", 2);
    }

    private static void seenByPinnedPassing() {
        // The pawn that could pass stands before its king: there is no such move, so nothing is lost.
        RuledBoard pinned = Boards.of("4k3/8/8/K1Pp3r/8/8/8/8 w - d");
        CHECKS.argument("no move by passing", () -> Boards.move(pinned, "c5d6"));
        seenAfter(pinned, "a5a6 e8e7 a6a5 e7e8", 2);
        RuledBoard mirrored = Boards.of("4k3/8/8/r3pP1K/8/8/8/8 w - e");
        CHECKS.argument("no move by passing from the other side", () -> Boards.move(mirrored, "f5e6"));
        seenAfter(mirrored, "h5h6 e8d8 h6h5 d8e8", 2);
        RuledBoard black = Boards.of("8/8/8/8/k1pP3R/8/8/4K3 b - d");
        CHECKS.argument("no move of black by passing", () -> Boards.move(black, "c4d3"));
        seenAfter(black, "a4a5 e1e2 a5a4 e2e1", 2);
        // One of two pawns is pinned: the other one can still pass.
        RuledBoard one = Boards.of("2r1k3/8/8/2PpP3/8/8/8/2K5 w - d");
        CHECKS.argument("no move by passing of one", () -> Boards.move(one, "c5d6"));
        seenAfter(one, "c1c2 e8e7 c2c1 e7e8", 1);
    }

    private static void seenFromBeginning() {
        RuledBoard board = new RuledBoard();
        Boards.play(board, "g1f3 g8f6 f3g1 f6g8 g1f3 g8f6 f3g1 f6g8");
        CHECKS.due("seen() three times", board.seen(), 3);
        Boards.play(board, "e2e4 e7e5");
        CHECKS.due("seen() anew", board.seen(), 1);
        for (int n = 0; n < 10; n++) {
            board.undo();
        }
        CHECKS.due("seen() at the beginning", board.seen(), 1);
    }
}
