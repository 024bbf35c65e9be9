/** Promises 6 to 11: undo, made, at, side, rights, passed. */
public final class UndoTest {
    private static final Checks CHECKS = new Checks();

    public static void main(String[] args) {
        undoRefused();
        wholeGame();
        looking();
        whileSet();
        CHECKS.finish();
    }

    private static void undoRefused() {
        RuledBoard board = new RuledBoard();
        CHECKS.state("undo of nothing", () -> board.undo());
        Boards.move(board, "e2e4");
        CHECKS.due("undo of one", board.undo(), 0);
        CHECKS.state("undo of nothing more", () -> board.undo());
        board.clear();
        CHECKS.state("undo being set", () -> board.undo());
        RuledBoard begun = Boards.of("4k3/8/8/8/8/8/8/4K3 w - -");
        CHECKS.state("undo before the beginning", () -> begun.undo());
    }

    /** With passing, castling both ways, promotion by taking, and rights that go by taking. */
    private static void wholeGame() {
        RuledBoard board = Boards.of("r3k2r/1P1p4/8/2P1p3/4P1p1/8/3P1P1P/R3K2R w KQkq -");
        String[] moves = {"h2h4", "g4h3", "b7a8q", "e8e7", "a8h8", "d7d5", "c5d6", "e7e6", "e1c1", "h3h2",
            "h8h2", "e6f6", "d2d4", "e5d4", "f2f4", "f6g7", "d1d4", "g7f8", "d6d7", "f8g7", "d7d8n"};
        String[] looks = new String[moves.length + 1];
        for (int n = 0; n < moves.length; n++) {
            looks[n] = Boards.look(board);
            CHECKS.due("made after " + moves[n], Boards.move(board, moves[n]), n + 1);
            CHECKS.due("made()", board.made(), n + 1);
            CHECKS.due("side()", board.side(), (n + 1) % 2);
        }
        for (int n = moves.length - 1; n >= 0; n--) {
            CHECKS.due("undo of " + moves[n], board.undo(), n);
            CHECKS.due("made()", board.made(), n);
            CHECKS.dueText("board before " + moves[n], Boards.look(board), looks[n]);
        }
        CHECKS.state("undo at the beginning", () -> board.undo());
    }

    private static void looking() {
        RuledBoard board = new RuledBoard();
        CHECKS.due("at(-1)", board.at(-1), 0);
        CHECKS.due("at(64)", board.at(64), 0);
        CHECKS.due("at(min)", board.at(Integer.MIN_VALUE), 0);
        CHECKS.due("at(max)", board.at(Integer.MAX_VALUE), 0);
        CHECKS.due("at(0)", board.at(0), 4);
        CHECKS.due("at(63)", board.at(63), 10);
        Boards.move(board, "h2h4");
        CHECKS.due("passed() 7", board.passed(), 7);
        CHECKS.due("side() 1", board.side(), 1);
        Boards.move(board, "a7a5");
        CHECKS.due("passed() 0", board.passed(), 0);
        CHECKS.due("side() 0", board.side(), 0);
        board.undo();
        CHECKS.due("passed() 7 again", board.passed(), 7);
        board.undo();
        CHECKS.due("passed() none again", board.passed(), -1);
    }

    private static void whileSet() {
        RuledBoard board = new RuledBoard();
        Boards.play(board, "e2e4 e7e5 e1e2 d7d5");
        CHECKS.due("rights() in play", board.rights(), 12);
        board.clear();
        board.put(4, 6);
        CHECKS.due("made() being set", board.made(), 0);
        CHECKS.due("side() being set", board.side(), -1);
        CHECKS.due("rights() being set", board.rights(), 0);
        CHECKS.due("passed() being set", board.passed(), -1);
        CHECKS.due("at() being set", board.at(4), 6);
        CHECKS.due("at() of no square being set", board.at(64), 0);
    }
}
