/** What is counted: moves made up to 150, moves taken back, quiet and seen, and the 512 calls of an object. */
public final class CountsTest {
    private static final Checks CHECKS = new Checks();
    private static final String[] ROUND = {"g1f3", "g8f6", "f3g1", "f6g8"};

    public static void main(String[] args) {
        madeCounts();
        noMoreThan150();
        stillAnswersAt150();
        takenBackToNothing();
        nothingBehindTheBeginning();
        fullEmptyFull();
        quietAtTheBeginning();
        quietCounts();
        quietStartsAnew();
        quietByUndo();
        seenCountsItself();
        seenCountsFromTheBeginning();
        seenWithoutTakenBack();
        seenTellsSquares();
        seenTellsSides();
        seenTellsRights();
        seenTellsPassing();
        seenPassingOverBorder();
        seenTellsNoMoveNoPassing();
        CHECKS.finish();
    }

    private static RuledBoard after(int moves) {
        RuledBoard board = new RuledBoard();
        for (int n = 0; n < moves; n++) {
            Boards.move(board, ROUND[n % 4]);
        }
        return board;
    }

    private static void madeCounts() {
        CHECKS.sentence("made: how many moves were made from the beginning on; 0 while it is set");
        RuledBoard board = new RuledBoard();
        CHECKS.due("made() of a new one", board.made(), 0);
        for (int n = 1; n <= 6; n++) {
            CHECKS.due("move", Boards.move(board, ROUND[(n - 1) % 4]), n);
            CHECKS.due("made()", board.made(), n);
        }
        CHECKS.argument("a move that is not there", () -> board.move(0, 0, 0));
        CHECKS.due("made() is not counted up by it", board.made(), 6);
        CHECKS.due("undo()", board.undo(), 5);
        CHECKS.due("made()", board.made(), 5);
        board.clear();
        CHECKS.due("made() being set", board.made(), 0);
        Boards.put(board, "4k3/8/8/8/8/8/8/4K3");
        CHECKS.due("made() being set", board.made(), 0);
        board.begin(0, 0, -1);
        CHECKS.due("made() at the beginning", board.made(), 0);
        CHECKS.due("move", Boards.move(board, "e1e2"), 1);
    }

    private static void noMoreThan150() {
        CHECKS.sentence("move: IllegalState: 150 moves were made");
        CHECKS.due("move 149", Boards.move(after(148), ROUND[0]), 149);
        CHECKS.due("move 150", Boards.move(after(149), ROUND[1]), 150);
        Twins.state(CHECKS, "move 151", () -> after(150), b -> Boards.move(b, ROUND[2]));
        Twins.state(CHECKS, "move 151 that is not there", () -> after(150), b -> b.move(0, 0, 0));
        Twins.state(CHECKS, "move 151 out of bounds", () -> after(150), b -> b.move(-1, 64, 6));
        Twins.argument(CHECKS, "move 150 that is not there", () -> after(149), b -> b.move(0, 0, 0));
        RuledBoard board = after(150);
        CHECKS.due("one taken back", board.undo(), 149);
        CHECKS.due("another made", Boards.move(board, "b8a6"), 150);
        CHECKS.state("and no more", () -> Boards.move(board, "f3g1"));
        board.clear();
        Boards.put(board, "4k3/8/8/8/8/8/8/4K3");
        board.begin(0, 0, -1);
        CHECKS.due("after a new beginning", Boards.move(board, "e1e2"), 1);
        CHECKS.sentence("move: IllegalState comes before IllegalArgument, in mate too");
        RuledBoard mated = Boards.of("7k/8/5K2/6Q1/8/8/8/8 w - -");
        String[] round = {"g5g1", "h8h7", "g1g5", "h7h8"};
        for (int n = 0; n < 149; n++) {
            Boards.move(mated, n < 148 ? round[n % 4] : "g5g7");
        }
        CHECKS.due("mate after 149", mated.ending(), 1);
        CHECKS.argument("no move in mate", () -> Boards.move(mated, "h8h7"));
        mated.undo();
        Boards.play(mated, "g5g1 h8h7");
        CHECKS.state("no move after 150", () -> Boards.move(mated, "h8h7"));
        CHECKS.sentence("mate answers as if there were no limit of 150 moves");
        CHECKS.due("mate in one after 150", mated.mate(2), 1);
    }

    private static void stillAnswersAt150() {
        CHECKS.sentence("after 150 moves all that is not move goes on");
        RuledBoard board = after(150);
        CHECKS.due("made()", board.made(), 150);
        CHECKS.due("side()", board.side(), 0);
        CHECKS.due("rights()", board.rights(), 15);
        CHECKS.due("passed()", board.passed(), -1);
        CHECKS.due("moves()", board.moves(), 22);
        CHECKS.dueText("nth(0)", Checks.told(() -> board.nth(0)), Integer.toString(Boards.code("b1a3")));
        CHECKS.due("check()", board.check(), false);
        CHECKS.due("ending()", board.ending(), 0);
        CHECKS.due("quiet()", board.quiet(), 150);
        CHECKS.due("seen()", board.seen(), 38);
        CHECKS.due("hits(0, 36)", board.hits(0, 36), true);
        CHECKS.due("mate(2)", board.mate(2), 0);
        CHECKS.due("undo()", board.undo(), 149);
    }

    private static void takenBackToNothing() {
        CHECKS.sentence("undo: IllegalState: there is none");
        Twins.state(CHECKS, "of a new one", RuledBoard::new, b -> b.undo());
        Twins.state(CHECKS, "of one begun", () -> Boards.of("r3k2r/8/8/2pP4/8/8/8/R3K2R w KQkq c"), b -> b.undo());
        RuledBoard board = after(2);
        CHECKS.due("undo()", board.undo(), 1);
        CHECKS.due("undo()", board.undo(), 0);
        CHECKS.state("undo()", () -> board.undo());
        CHECKS.state("undo()", () -> board.undo());
        CHECKS.dueText("at the beginning", Boards.look(board), Boards.look(new RuledBoard()));
        CHECKS.due("move", Boards.move(board, "e2e4"), 1);
        CHECKS.due("undo()", board.undo(), 0);
    }

    private static void nothingBehindTheBeginning() {
        CHECKS.sentence("from the beginning on: what was before begin is not taken back, counted or seen");
        RuledBoard board = after(8);
        board.clear();
        Boards.put(board, "rnbqkbnr/pppppppp/8/8/8/8/PPPPPPPP/RNBQKBNR");
        board.begin(0, 15, -1);
        CHECKS.state("undo()", () -> board.undo());
        CHECKS.due("made()", board.made(), 0);
        CHECKS.due("quiet()", board.quiet(), 0);
        CHECKS.due("seen()", board.seen(), 1);
        Boards.play(board, "g1f3 g8f6 f3g1 f6g8");
        CHECKS.due("quiet()", board.quiet(), 4);
        CHECKS.due("seen()", board.seen(), 2);
    }

    /** 511 calls: nothing is used up by moves that were taken back. */
    private static void fullEmptyFull() {
        CHECKS.sentence("an object is used for at most 512 calls");
        RuledBoard board = after(150);
        for (int n = 149; n >= 0; n--) {
            CHECKS.due("undo()", board.undo(), n);
        }
        for (int n = 1; n <= 150; n++) {
            CHECKS.due("move", Boards.move(board, ROUND[(n - 1) % 4]), n);
        }
        for (int n = 149; n >= 92; n--) {
            CHECKS.due("undo()", board.undo(), n);
        }
        CHECKS.due("call 509, seen()", board.seen(), 24);
        CHECKS.due("call 510, quiet()", board.quiet(), 92);
        CHECKS.due("call 511, moves()", board.moves(), 20);
        CHECKS.due("call 512, mate(2)", board.mate(2), 0);
    }

    private static void quietAtTheBeginning() {
        CHECKS.sentence("quiet: it is 0 at the beginning");
        CHECKS.due("of a new one", new RuledBoard().quiet(), 0);
        CHECKS.due("of one begun", Boards.of("4k3/8/8/8/8/8/8/4K3 b - -").quiet(), 0);
        CHECKS.due("of one begun with a passed file", Boards.of("4k3/8/8/2p5/8/8/8/4K3 w - c").quiet(), 0);
    }

    private static void quiet(String told, String moves, int want) {
        RuledBoard board = Boards.of(told);
        Boards.play(board, moves);
        CHECKS.due(told + ": quiet() after " + moves, board.quiet(), want);
    }

    private static void quietCounts() {
        CHECKS.sentence("quiet: counts the moves since");
        quiet("4k3/8/8/8/8/8/8/4K3 w - -", "e1e2", 1);
        quiet("4k3/8/8/8/8/8/8/4K3 w - -", "e1e2 e8e7", 2);
        quiet("r3k2r/8/8/8/8/8/8/R3K2R w KQkq -", "e1g1", 1);
        quiet("r3k2r/8/8/8/8/8/8/R3K2R w KQkq -", "e1c1 e8g8", 2);
        quiet("4k3/8/8/8/8/8/8/Q3K3 w - -", "a1b1", 1);
        quiet("7k/7p/8/8/8/8/8/1RBNK3 w - -", "b1b2 h8g7 c1d2 g7h8 d1e3 h8g7 e1e2", 7);
        for (int n : new int[] {99, 100, 101, 149, 150}) {
            CHECKS.due("quiet() after " + n, after(n).quiet(), n);
        }
    }

    private static void quietStartsAnew() {
        CHECKS.sentence("quiet: the latest one that was a pawn's");
        quiet("4k3/8/8/8/8/8/4P3/4K3 w - -", "e1d1 e8e7 e2e3", 0);
        quiet("4k3/8/8/8/8/8/4P3/4K3 w - -", "e1d1 e8e7 e2e4", 0);
        quiet("4k3/4p3/8/8/8/8/8/4K3 w - -", "e1d1 e7e5", 0);
        quiet("4k3/4p3/8/8/8/8/8/4K3 w - -", "e1d1 e7e5 d1d2", 1);
        quiet("4k3/P7/8/8/8/8/8/4K3 w - -", "e1d1 e8e7 a7a8n", 0);
        quiet("4k3/P7/8/8/8/8/8/4K3 w - -", "a7a8n e8e7 a8b6", 2);
        CHECKS.sentence("quiet: the latest one by which a piece went off");
        quiet("4k3/8/8/8/8/8/4p3/4K3 w - -", "e1e2", 0);
        quiet("4k3/8/8/8/8/8/8/r3K2R w - -", "e1e2 a1h1", 0);
        quiet("4k3/8/8/8/8/8/8/r3K2R w - -", "e1e2 a1h1 e2e3", 1);
        for (int taken = 1; taken <= 11; taken++) {
            quietByTaking(taken);
        }
        quiet("1n2k3/P7/8/8/8/8/8/4K3 w - -", "e1d1 e8e7 a7b8q", 0);
        quiet("4k3/8/8/8/8/1p6/P7/4K3 w - -", "e1d1 e8e7 a2b3", 0);
        CHECKS.sentence("quiet: a move by passing is both");
        quiet("4k3/2p5/8/1P6/8/8/8/4K3 b - -", "e8e7 e1d1 c7c5 b5c6", 0);
        quiet("4k3/2p5/8/1P6/8/8/8/4K3 b - -", "e8e7 e1d1 c7c5 b5c6 e7e6", 1);
    }

    /** A rook of the other side takes the piece, after two quiet moves of the kings. */
    private static void quietByTaking(int taken) {
        if (taken == 6) {
            return;
        }
        int side = taken > 6 ? 0 : 1;
        RuledBoard board = Boards.set("8/8/5k2/8/8/7K/8/8");
        board.put(8, 4 + 6 * side);
        board.put(48, taken);
        board.begin(side, 0, -1);
        Boards.play(board, side == 0 ? "h3h4 f6f5" : "f6f5 h3h4");
        CHECKS.due("quiet() before", board.quiet(), 2);
        board.move(8, 48, 0);
        CHECKS.due("quiet() after " + taken + " went off", board.quiet(), 0);
    }

    private static void quietByUndo() {
        CHECKS.sentence("quiet: of the moves that are left when some are taken back");
        RuledBoard board = Boards.of("4k3/8/8/8/8/8/4P3/R3K3 w - -");
        Boards.play(board, "a1a2 e8e7 a2a1 e7e8 e2e4 e8e7");
        int[] want = {0, 4, 3, 2, 1, 0};
        CHECKS.due("quiet()", board.quiet(), 1);
        for (int n = 0; n < want.length; n++) {
            board.undo();
            CHECKS.due("quiet() with " + (5 - n) + " made", board.quiet(), want[n]);
        }
        Boards.move(board, "e2e3");
        CHECKS.due("quiet() after another one", board.quiet(), 0);
    }

    private static void seen(RuledBoard board, String moves, int want) {
        Boards.play(board, moves);
        CHECKS.due("seen() after " + moves, board.seen(), want);
    }

    private static void seenCountsItself() {
        CHECKS.sentence("seen: itself counted");
        CHECKS.due("of a new one", new RuledBoard().seen(), 1);
        CHECKS.due("of one begun", Boards.of("4k3/8/8/8/8/8/8/4K3 b - -").seen(), 1);
        for (int n = 0; n <= 150; n++) {
            CHECKS.due("seen() after " + n, after(n).seen(), n / 4 + 1);
        }
    }

    private static void seenCountsFromTheBeginning() {
        CHECKS.sentence("seen: from the beginning on");
        RuledBoard board = Boards.of("4k3/8/8/8/8/8/8/R3K3 w - -");
        seen(board, "a1a2 e8e7 a2a1 e7e8", 2);
        seen(board, "a1a2 e8e7", 2);
        seen(board, "a2a3 e7e8 a3a1", 1);
        seen(board, "e8e7 a1a2 e7e8 a2a3 e8e7 a3a1 e7e8", 3);
    }

    private static void seenWithoutTakenBack() {
        CHECKS.sentence("seen: moves taken back not counted");
        RuledBoard board = new RuledBoard();
        for (int n = 0; n < 5; n++) {
            Boards.move(board, "g1f3");
            CHECKS.due("seen() of one made again and again", board.seen(), 1);
            board.undo();
            CHECKS.due("seen() of the beginning", board.seen(), 1);
        }
        Boards.play(board, "g1f3 g8f6 f3g1 f6g8 g1f3 g8f6");
        CHECKS.due("seen()", board.seen(), 2);
        for (int n = 0; n < 4; n++) {
            board.undo();
        }
        CHECKS.due("seen() after four taken back", board.seen(), 1);
        seen(board, "b1c3 b8c6 c3b1 c6b8", 2);
        seen(board, "f3g1 f6g8", 2);
    }

    private static void seenTellsSquares() {
        CHECKS.sentence("same: all squares are the same");
        for (int square = 0; square < 64; square++) {
            int rook = square % 8 == 0 ? square + 1 : square - 1;
            differsOnOneSquare(new int[] {rook, 4, square, 8});
        }
        CHECKS.sentence("same: a square is not told by the one beside it");
        for (int beside = 1; beside <= 5; beside++) {
            for (int taken = 7; taken <= 11; taken++) {
                differsOnOneSquare(new int[] {44, 4, 28, taken, 27, beside});
                differsOnOneSquare(new int[] {43, 4, 27, taken, 28, beside});
                differsOnOneSquare(new int[] {40, 4, 24, taken, 23, beside});
                differsOnOneSquare(new int[] {39, 4, 23, taken, 24, beside});
            }
        }
        CHECKS.sentence("same: it doesn't matter which of two pieces alike stands on a square");
        RuledBoard twins = Boards.of("4k3/8/8/8/8/8/8/R3K2R w - -");
        seen(twins, "a1a2 e8e7 h1h2 e7e8 a2a3 e8e7 h2a2 e7e8 a2a1 e8e7 a3h3 e7e8 h3h1 e8e7", 1);
        seen(twins, "e1d1 e7d8 d1e1 d8e8", 2);
        RuledBoard swapped = Boards.of("4k3/8/8/8/8/8/7K/1N3N2 w - -");
        seen(swapped, "b1d2 e8e7 f1e3 e7e8 d2f1 e8e7 e3c2 e7e8 c2a3 e8e7 a3b1 e7e8", 2);
        RuledBoard kinds = Boards.of("4k3/8/8/8/8/8/7K/R6Q w - -");
        seen(kinds, "a1a2 e8e7 h1a1 e7e8 a2b2 e8e7 b2b1 e7e8", 1);
    }

    /** Squares and pieces by turns: the first takes the second and goes back, so that nothing else differs. */
    private static void differsOnOneSquare(int[] placing) {
        boolean tried = false;
        for (int kings = 0; kings < 64 * 64 && !tried; kings += 5) {
            tried = differsWithKings(placing, kings % 64, kings / 64);
        }
        CHECKS.due("kings were found for a board to try square " + placing[2], tried, true);
    }

    /** False where the kings stand in the way. */
    private static boolean differsWithKings(int[] placing, int white, int black) {
        RuledBoard board = Boards.set("8/8/8/8/8/8/8/8");
        board.put(white, 6);
        board.put(black, 12);
        boolean fits = true;
        for (int n = 0; n < placing.length; n += 2) {
            fits = board.put(placing[n], placing[n + 1]) == 0 && fits;
        }
        int from = placing[0];
        int square = placing[2];
        int[][] round = {{from, square}, {black, black ^ 1}, {square, from}, {black ^ 1, black}};
        fits = fits && !Checks.told(() -> board.begin(0, 0, -1)).startsWith("throws");
        for (int[] step : round) {
            fits = fits && !Checks.told(() -> board.move(step[0], step[1], 0)).startsWith("throws");
        }
        if (fits) {
            CHECKS.due("seen() without " + placing[3] + " on " + square, board.seen(), 1);
        }
        return fits;
    }

    private static void seenTellsSides() {
        CHECKS.sentence("same: the side is the same");
        RuledBoard board = Boards.of("4k3/8/8/8/8/8/8/R3K3 w - -");
        seen(board, "a1a3 e8e7 a3a2 e7e8 a2a1", 1);
        seen(board, "e8e7 a1a3 e7e8 a3a1", 2);
    }

    /** Rook and king go and come back: the squares are the same, a right is not. */
    private static void seenTellsRights() {
        CHECKS.sentence("same: the rights are the same");
        String[] goes = {"h1h2 e8e7 h2h1 e7e8", "a1a2 e8e7 a2a1 e7e8", "e1e2 h8h7 e2e1 h7h8", "e1e2 a8a7 e2e1 a7a8"};
        String[] begun = {"4k3/8/8/8/8/8/8/4K2R w K -", "4k3/8/8/8/8/8/8/R3K3 w Q -", "4k2r/8/8/8/8/8/8/4K3 w k -",
            "r3k3/8/8/8/8/8/8/4K3 w q -"};
        for (int n = 0; n < goes.length; n++) {
            RuledBoard board = Boards.of(begun[n]);
            seen(board, goes[n], 1);
            seen(board, goes[n], 2);
            RuledBoard without = Boards.of(begun[n].substring(0, begun[n].length() - 3) + "- -");
            seen(without, goes[n], 2);
            seen(without, goes[n], 3);
        }
    }

    private static void seenTellsPassing() {
        CHECKS.sentence("same: the same moves by passing are there");
        for (int side = 0; side <= 1; side++) {
            for (int passed = 0; passed < 8; passed++) {
                for (int beside = 0; beside < 4; beside++) {
                    boolean low = (beside & 1) != 0 && passed > 0;
                    boolean high = (beside & 2) != 0 && passed < 7;
                    RuledBoard board = Boards.set("3k4/8/8/8/8/8/8/3K4");
                    int square = 8 * (side == 0 ? 4 : 3) + passed;
                    board.put(square, 7 - 6 * side);
                    if (low) {
                        board.put(square - 1, 1 + 6 * side);
                    }
                    if (high) {
                        board.put(square + 1, 1 + 6 * side);
                    }
                    board.begin(side, 0, passed);
                    String round = side == 0 ? "d1e1 d8e8 e1d1 e8d8" : "d8e8 d1e1 e8d8 e1d1";
                    seen(board, round, low || high ? 1 : 2);
                    seen(board, round, low || high ? 2 : 3);
                }
            }
        }
    }

    /** A pawn on the other border, one square on or back by number, stands in no file next to the passed one. */
    private static void seenPassingOverBorder() {
        CHECKS.sentence("same: no move by passing over the border");
        String[] whites = {"3k4/8/8/p7/7P/8/8/3K4 w - a", "3k4/8/P7/7p/8/8/8/3K4 w - h",
            "3k4/8/8/p6P/8/8/8/3K4 w - a", "3k4/8/8/P6p/8/8/8/3K4 w - h"};
        for (String told : whites) {
            seen(Boards.of(told), "d1e1 d8e8 e1d1 e8d8", 2);
        }
        String[] blacks = {"3k4/8/8/8/P7/7p/8/3K4 b - a", "3k4/8/8/p7/7P/8/8/3K4 b - h",
            "3k4/8/8/8/P6p/8/8/3K4 b - a", "3k4/8/8/8/p6P/8/8/3K4 b - h"};
        for (String told : blacks) {
            seen(Boards.of(told), "d8e8 d1e1 e8d8 e1d1", 2);
        }
    }

    private static void seenTellsNoMoveNoPassing() {
        CHECKS.sentence("same: a pawn that could pass but for check has no move by passing");
        RuledBoard bared = Boards.of("4k3/8/8/K1Pp3r/8/8/8/8 w - d");
        seen(bared, "a5a6 e8e7 a6a5 e7e8", 2);
        RuledBoard pinned = Boards.of("2r1k3/8/8/2Pp4/8/8/8/2K5 w - d");
        seen(pinned, "c1c2 e8e7 c2c1 e7e8", 2);
        RuledBoard one = Boards.of("2r1k3/8/8/2PpP3/8/8/8/2K5 w - d");
        seen(one, "c1c2 e8e7 c2c1 e7e8", 1);
        RuledBoard black = Boards.of("8/8/8/8/k1pP3R/8/8/4K3 b - d");
        seen(black, "a4a5 e1e2 a5a4 e2e1", 2);
        CHECKS.sentence("same: a pawn that has just gone two ranks where none can pass it");
        RuledBoard idle = new RuledBoard();
        Boards.move(idle, "e2e4");
        CHECKS.due("passed()", idle.passed(), 4);
        seen(idle, "g8f6 g1f3 f6g8 f3g1", 2);
        CHECKS.due("passed() is none, the position the same", idle.passed(), -1);
    }
}
