/** Passing and the passed file: every file, both sides, and what is beside it but doesn't fit. */
public final class PassingTest {
    private static final Checks CHECKS = new Checks();

    public static void main(String[] args) {
        filesNextTo();
        ranks();
        onlyPawns();
        goesOffTheBoard();
        onlyAtOnce();
        passedFile();
        elseNone();
        notIntoCheck();
        CHECKS.finish();
    }

    private static int rankOf(int side) {
        return side == 0 ? 4 : 3;
    }

    /** A passed pawn of the other side, kings far off its rank, and one more piece. */
    private static RuledBoard board(int side, int passed, int square, int piece) {
        RuledBoard board = Boards.set("8/8/8/8/8/8/8/8");
        board.put(3, 6);
        board.put(59, 12);
        board.put(8 * rankOf(side) + passed, 7 - 6 * side);
        board.put(square, piece);
        board.begin(side, 0, passed);
        return board;
    }

    private static int target(int side, int passed) {
        return passed + 8 * (side == 0 ? 5 : 2);
    }

    private static boolean has(RuledBoard board, int from, int to) {
        int count = board.moves();
        for (int k = 0; k < count; k++) {
            if (board.nth(k) == from + 64 * to) {
                return true;
            }
        }
        return false;
    }

    private static void filesNextTo() {
        CHECKS.sentence("passing: in a file next to f");
        for (int side = 0; side <= 1; side++) {
            for (int passed = 0; passed < 8; passed++) {
                for (int file = 0; file < 8; file++) {
                    if (file != passed) {
                        int from = 8 * rankOf(side) + file;
                        RuledBoard board = board(side, passed, from, 1 + 6 * side);
                        boolean next = Math.abs(file - passed) == 1;
                        String what = "side " + side + ", passed " + passed + ", pawn on file " + file;
                        CHECKS.due(what, has(board, from, target(side, passed)), next);
                        CHECKS.due(what + ": moves of the pawn", count(board, from), next ? 2 : 1);
                    }
                }
            }
        }
        CHECKS.sentence("passing: two pawns next to f");
        for (int side = 0; side <= 1; side++) {
            for (int passed = 1; passed < 7; passed++) {
                RuledBoard board = Boards.set("8/8/8/8/8/8/8/8");
                board.put(3, 6);
                board.put(59, 12);
                int beside = 8 * rankOf(side) + passed;
                board.put(beside, 7 - 6 * side);
                board.put(beside - 1, 1 + 6 * side);
                board.put(beside + 1, 1 + 6 * side);
                board.begin(side, 0, passed);
                CHECKS.due("the lower one", has(board, beside - 1, target(side, passed)), true);
                CHECKS.due("the higher one", has(board, beside + 1, target(side, passed)), true);
            }
        }
    }

    private static int count(RuledBoard board, int from) {
        int found = 0;
        int count = board.moves();
        for (int k = 0; k < count; k++) {
            found += (board.nth(k) & 63) == from ? 1 : 0;
        }
        return found;
    }

    private static void ranks() {
        CHECKS.sentence("passing: a pawn of white on rank 4, or of black on rank 3");
        for (int side = 0; side <= 1; side++) {
            for (int rank = 1; rank <= 6; rank++) {
                for (int file = 3; file <= 5; file += 2) {
                    int from = 8 * rank + file;
                    int to = target(side, 4);
                    RuledBoard board = board(side, 4, from, 1 + 6 * side);
                    boolean right = rank == rankOf(side);
                    CHECKS.due("side " + side + ", pawn on " + from, has(board, from, to), right);
                    CHECKS.dueText("side " + side + ", pawn on " + from + " moved so",
                            Checks.told(() -> board.move(from, to, 0)),
                            right ? "1" : "throws.IllegalArgumentException");
                }
            }
        }
    }

    /** A pawn of the other side beside it, or another piece, doesn't pass. */
    private static void onlyPawns() {
        CHECKS.sentence("passing: a pawn");
        for (int side = 0; side <= 1; side++) {
            for (int kind = 1; kind <= 5; kind++) {
                int from = 8 * rankOf(side) + 5;
                RuledBoard board = board(side, 4, from, kind + 6 * side);
                int to = target(side, 4);
                boolean hit = board.hits(side, to);
                CHECKS.due("kind " + kind + " of " + side, has(board, from, to), hit);
                if (hit && kind != 1) {
                    board.move(from, to, 0);
                    CHECKS.due("the pawn beside stays", board.at(8 * rankOf(side) + 4), 7 - 6 * side);
                }
            }
            int from = 8 * rankOf(side) + 5;
            int to = target(side, 4);
            RuledBoard other = board(side, 4, from, 7 - 6 * side);
            CHECKS.argument("a pawn of the other side", () -> other.move(from, to, 0));
        }
    }

    private static void goesOffTheBoard() {
        CHECKS.sentence("passing: the pawn of the other side that stands beside it in file f goes off the board");
        for (int side = 0; side <= 1; side++) {
            for (int passed = 0; passed < 8; passed++) {
                for (int file = passed - 1; file <= passed + 1; file += 2) {
                    if (file >= 0 && file < 8) {
                        passAndTakeBack(side, passed, file);
                    }
                }
            }
        }
    }

    private static void passAndTakeBack(int side, int passed, int file) {
        int from = 8 * rankOf(side) + file;
        int to = target(side, passed);
        int beside = 8 * rankOf(side) + passed;
        RuledBoard board = board(side, passed, from, 1 + 6 * side);
        String before = Boards.look(board);
        String what = "side " + side + " from " + from + " to " + to;
        CHECKS.due(what, board.move(from, to, 0), 1);
        CHECKS.due(what + ": came", board.at(to), 1 + 6 * side);
        CHECKS.due(what + ": left", board.at(from), 0);
        CHECKS.due(what + ": went off", board.at(beside), 0);
        CHECKS.due(what + ": quiet()", board.quiet(), 0);
        CHECKS.due(what + ": passed()", board.passed(), -1);
        CHECKS.due(what + ": side()", board.side(), 1 - side);
        CHECKS.due(what + ": taken back", board.undo(), 0);
        CHECKS.dueText(what + ": taken back", Boards.look(board), before);
    }

    private static void onlyAtOnce() {
        CHECKS.sentence("passing: with the passed file");
        Twins.argument(CHECKS, "without a passed file", () -> Boards.of("4k3/8/8/1Pp5/8/8/8/4K3 w - -"),
                b -> Boards.move(b, "b5c6"));
        Twins.argument(CHECKS, "with another passed file", () -> Boards.of("4k3/8/8/1PpPp3/8/8/8/4K3 w - e"),
                b -> Boards.move(b, "d5c6"));
        Twins.argument(CHECKS, "a move of each later", PassingTest::later, b -> Boards.move(b, "b5c6"));
        Twins.argument(CHECKS, "after twice one rank", PassingTest::twiceOne, b -> Boards.move(b, "e5d6"));
        RuledBoard board = later();
        board.undo();
        board.undo();
        CHECKS.due("those taken back, it is there", Boards.move(board, "b5c6"), 1);
    }

    private static RuledBoard later() {
        RuledBoard board = Boards.of("4k3/8/8/1Pp5/8/8/8/4K3 w - c");
        Boards.play(board, "e1e2 e8e7");
        return board;
    }

    private static RuledBoard twiceOne() {
        RuledBoard board = new RuledBoard();
        Boards.play(board, "e2e4 d7d6 e4e5 d6d5");
        return board;
    }

    private static void passedFile() {
        CHECKS.sentence("the passed file is that of a pawn that has just gone two ranks");
        for (int file = 0; file < 8; file++) {
            RuledBoard board = new RuledBoard();
            CHECKS.due("at the beginning", board.passed(), -1);
            board.move(8 + file, 24 + file, 0);
            CHECKS.due("white's of file " + file, board.passed(), file);
            board.move(55 - file, 39 - file, 0);
            CHECKS.due("black's of file " + (7 - file), board.passed(), 7 - file);
            board.undo();
            CHECKS.due("taken back", board.passed(), file);
            board.undo();
            CHECKS.due("all taken back", board.passed(), -1);
        }
    }

    private static void elseNone() {
        CHECKS.sentence("the passed file is else none");
        for (int file = 0; file < 8; file++) {
            RuledBoard board = new RuledBoard();
            board.move(8 + file, 16 + file, 0);
            CHECKS.due("white's one rank", board.passed(), -1);
            board.move(48 + file, 40 + file, 0);
            CHECKS.due("black's one rank", board.passed(), -1);
        }
        noneAfter("4k3/p7/8/8/8/8/8/R3K3 w - -", "a1a3");
        noneAfter("4k3/8/8/8/8/8/Q7/4K3 w - -", "a2a4");
        noneAfter("4k3/8/8/8/8/8/8/1N2K3 w - -", "b1c3");
        noneAfter("4k3/r7/8/8/8/8/8/4K3 b - -", "a7a5");
        noneAfter("4k3/8/8/8/8/1p6/P7/4K3 w - -", "a2b3");
        noneAfter("4k3/8/8/8/8/8/8/4K2R w K -", "e1g1");
        noneAfter("4k3/P7/8/8/8/8/8/4K3 w - -", "a7a8q");
        noneAfter("4k3/8/8/1Pp5/8/8/8/4K3 w - c", "b5c6");
        noneAfter("4k3/8/8/1Pp5/8/8/8/4K3 w - c", "e1e2");
    }

    private static void noneAfter(String told, String move) {
        RuledBoard board = Boards.of(told);
        int before = board.passed();
        Boards.move(board, move);
        CHECKS.due(told + ": passed() after " + move, board.passed(), -1);
        board.undo();
        CHECKS.due(told + ": passed() taken back", board.passed(), before);
    }

    private static void notIntoCheck() {
        CHECKS.sentence("passing: no move after which the own side would be in check");
        String[] bared = {"8/8/8/KPp4r/8/8/8/4k3 w - c b5c6", "8/8/8/r1pP3K/8/8/8/4k3 w - c d5c6",
            "8/8/8/2pP4/8/8/8/1k1K4 w - c", "8/8/8/q1pP2K1/8/8/8/4k3 w - c d5c6",
            "3r4/8/8/2pP4/8/8/8/1k1K4 w - c d5c6", "8/8/8/2pP4/1b6/8/8/k3K3 w - c d5c6",
            "4K3/8/8/8/kpP4R/8/8/8 b - c b4c3", "8/1b6/8/2pP4/8/8/6K1/k7 w - c"};
        for (String told : bared) {
            String[] part = told.split(" ");
            String begun = part[0] + " " + part[1] + " " + part[2] + " " + part[3];
            if (part.length == 5) {
                Twins.argument(CHECKS, told, () -> Boards.of(begun), b -> Boards.move(b, part[4]));
            } else {
                CHECKS.due(told, Boards.move(Boards.of(begun), "d5c6"), 1);
            }
        }
        CHECKS.sentence("passing: the pawn that goes off gave the check");
        CHECKS.dueText("white", Boards.movesOf(Boards.of("4k3/8/8/1Pp5/3K4/8/8/8 w - c"), "b5"), "b5c6");
        CHECKS.dueText("black", Boards.movesOf(Boards.of("8/8/8/3k4/1pP5/8/8/4K3 b - c"), "b4"), "b4c3");
    }
}
