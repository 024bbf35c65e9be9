/** Every number of every call, just inside and just outside of its bounds. */
public final class BoundsTest {
    private static final Checks CHECKS = new Checks();
    private static final int MIN = Integer.MIN_VALUE;
    private static final int MAX = Integer.MAX_VALUE;
    /** Also those that come inside again when a higher part of the number is dropped. */
    private static final int[] NO_SQUARES = {MIN, MIN + 4, -256, -64, -60, -8, -1, 64, 68, 127, 128, 256, 1 << 26, MAX};

    public static void main(String[] args) {
        putSquares();
        putPieces();
        beginNumbers();
        moveSquares();
        movePromotions();
        atSquares();
        nthNumbers();
        hitsNumbers();
        mateNumbers();
        CHECKS.finish();
    }

    private static RuledBoard setting() {
        return Boards.set("r3k2r/8/8/8/8/8/8/R3K2R");
    }

    private static RuledBoard playing() {
        RuledBoard board = new RuledBoard();
        Boards.play(board, "e2e4 e7e5 g1f3 b8c6");
        return board;
    }

    private static void putSquares() {
        CHECKS.sentence("put: squares are 0 .. 63");
        RuledBoard board = Boards.set("8/8/8/8/8/8/8/8");
        for (int square = 0; square < 64; square++) {
            CHECKS.due("put(" + square + ", 1) on an empty square", board.put(square, 1), 0);
            CHECKS.due("put(" + square + ", 12) on a pawn", board.put(square, 12), 1);
            CHECKS.due("at(" + square + ")", board.at(square), 12);
            CHECKS.due("put(" + square + ", 0) on a king", board.put(square, 0), 12);
            CHECKS.due("at(" + square + ")", board.at(square), 0);
        }
        for (int square : NO_SQUARES) {
            refuse("put(" + square + ", 5)", BoundsTest::setting, b -> b.put(square, 5));
            refuse("put(" + square + ", 0)", BoundsTest::setting, b -> b.put(square, 0));
        }
    }

    private static void putPieces() {
        CHECKS.sentence("put: pieces are 0 .. 12");
        RuledBoard board = Boards.set("8/8/8/8/8/8/8/8");
        for (int first = 0; first <= 12; first++) {
            for (int second = 0; second <= 12; second++) {
                board.put(35, first);
                CHECKS.due("put(35, " + second + ") on " + first, board.put(35, second), first);
                CHECKS.due("at(35)", board.at(35), second);
            }
        }
        for (int piece : new int[] {MIN, -16, -1, 13, 14, 15, 16, 17, 256, MAX}) {
            refuse("put(0, " + piece + ")", BoundsTest::setting, b -> b.put(0, piece));
            refuse("put(63, " + piece + ")", BoundsTest::setting, b -> b.put(63, piece));
            refuse("put(64, " + piece + ")", BoundsTest::setting, b -> b.put(64, piece));
        }
    }

    private static void beginNumbers() {
        CHECKS.sentence("begin: sides 0 and 1");
        CHECKS.due("begin(0, 0, -1)", setting().begin(0, 0, -1), 24);
        CHECKS.due("begin(1, 0, -1)", setting().begin(1, 0, -1), 24);
        for (int side : new int[] {MIN, -2, -1, 2, 3, 256, MAX}) {
            refuse("begin(" + side + ", 0, -1)", BoundsTest::setting, b -> b.begin(side, 0, -1));
        }
        CHECKS.sentence("begin: rights 0 .. 15");
        for (int rights = 0; rights <= 15; rights++) {
            RuledBoard board = setting();
            CHECKS.due("begin(0, " + rights + ", -1)", board.begin(0, rights, -1), 24 + Integer.bitCount(rights & 3));
            CHECKS.due("rights()", board.rights(), rights);
        }
        for (int rights : new int[] {MIN, -16, -15, -1, 16, 17, 31, 32, 256, MAX}) {
            refuse("begin(0, " + rights + ", -1)", BoundsTest::setting, b -> b.begin(0, rights, -1));
        }
        CHECKS.sentence("begin: passed -1 .. 7");
        for (int passed = -1; passed <= 7; passed++) {
            RuledBoard board = Boards.set("3k4/8/8/pppppppp/8/8/8/3K4");
            board.begin(0, 0, passed);
            CHECKS.due("passed() after begin(0, 0, " + passed + ")", board.passed(), passed);
        }
        for (int passed : new int[] {MIN, -9, -8, -3, -2, 8, 9, 15, 256, MAX}) {
            refuse("begin(0, 0, " + passed + ")", () -> Boards.set("3k4/8/8/pppppppp/8/8/8/3K4"),
                    b -> b.begin(0, 0, passed));
            refuse("begin(1, 0, " + passed + ")", () -> Boards.set("3k4/8/8/8/PPPPPPPP/8/8/3K4"),
                    b -> b.begin(1, 0, passed));
        }
        CHECKS.sentence("begin: a passed file out of its bounds runs over into no other rank");
        for (int passed : new int[] {-10, -9, -8, -7, -6, -5, -4, -3, -2, 8, 9, 10, 11, 12, 13, 14, 15, 16}) {
            refuse("begin(0, 0, " + passed + ")", () -> pawnAt(32 + passed, 7), b -> b.begin(0, 0, passed));
            refuse("begin(1, 0, " + passed + ")", () -> pawnAt(24 + passed, 1), b -> b.begin(1, 0, passed));
        }
    }

    private static RuledBoard pawnAt(int square, int piece) {
        RuledBoard board = Boards.set("8/8/8/8/8/8/8/8");
        boolean low = square % 8 < 4;
        board.put(low ? 7 : 0, 6);
        board.put(low ? 63 : 56, 12);
        board.put(square, piece);
        return board;
    }

    private static void moveSquares() {
        CHECKS.sentence("move: squares are 0 .. 63");
        CHECKS.due("from 0 to 63", Boards.of("8/8/1k6/8/8/8/8/B3K3 w - -").move(0, 63, 0), 1);
        CHECKS.due("from 63 to 0", Boards.of("4k2b/8/8/8/8/6K1/8/8 b - -").move(63, 0, 0), 1);
        for (int square : NO_SQUARES) {
            refuse("from " + square, BoundsTest::playing, b -> b.move(square, 16, 0));
            refuse("to " + square, BoundsTest::playing, b -> b.move(8, square, 0));
            refuse("both " + square, BoundsTest::playing, b -> b.move(square, square, 0));
        }
        CHECKS.sentence("move: a move is told by three numbers, none of which runs over into another");
        refuse("from 64 more, to 1 less", BoundsTest::playing, b -> b.move(8 + 64, 16 - 1, 0));
        refuse("from 64 less, to 1 more", BoundsTest::playing, b -> b.move(8 - 64, 16 + 1, 0));
        refuse("to 64 less, promotion 1 more", BoundsTest::playing, b -> b.move(8, 16 - 64, 1));
        refuse("to 64 more, promotion 1 less", BoundsTest::playing, b -> b.move(8, 16 + 64, -1));
        refuse("promotion that wraps around", BoundsTest::playing, b -> b.move(8, 16, 1 << 20));
        refuse("to that wraps around", BoundsTest::playing, b -> b.move(8, 16 + (1 << 26), 0));
    }

    private static void movePromotions() {
        CHECKS.sentence("move: a promotion is 2, 3, 4 or 5, never 0 on the last rank");
        int[] wrong = {MIN, -1, 0, 1, 6, 7, 8, 9, 10, 11, 12, 256 + 5, MAX};
        for (int promotion : wrong) {
            refuse("white, promotion " + promotion, () -> Boards.of("4k3/P7/8/8/8/8/8/4K3 w - -"),
                    b -> b.move(48, 56, promotion));
            refuse("black, promotion " + promotion, () -> Boards.of("4k3/8/8/8/8/8/7p/4K3 b - -"),
                    b -> b.move(15, 7, promotion));
        }
        for (int promotion = 2; promotion <= 5; promotion++) {
            RuledBoard white = Boards.of("4k3/P7/8/8/8/8/8/4K3 w - -");
            CHECKS.due("white, promotion " + promotion, white.move(48, 56, promotion), 1);
            CHECKS.due("becomes", white.at(56), promotion);
            RuledBoard black = Boards.of("4k3/8/8/8/8/8/7p/4K3 b - -");
            CHECKS.due("black, promotion " + promotion, black.move(15, 7, promotion), 1);
            CHECKS.due("becomes", black.at(7), promotion + 6);
        }
        CHECKS.sentence("move: a promotion is 0 mostly");
        for (int promotion : new int[] {MIN, -1, 1, 2, 3, 4, 5, 6, MAX}) {
            refuse("a pawn's, promotion " + promotion, BoundsTest::playing, b -> b.move(8, 16, promotion));
            refuse("a knight's, promotion " + promotion, BoundsTest::playing, b -> b.move(21, 36, promotion));
            refuse("to the last but one rank, promotion " + promotion,
                    () -> Boards.of("4k3/8/P7/8/8/8/8/4K3 w - -"), b -> b.move(40, 48, promotion));
            refuse("a rook's to the last rank, promotion " + promotion,
                    () -> Boards.of("8/R7/4k3/8/8/8/8/4K3 w - -"), b -> b.move(48, 56, promotion));
        }
    }

    private static void atSquares() {
        CHECKS.sentence("at: 0 when there is no such square");
        for (RuledBoard board : new RuledBoard[] {new RuledBoard(), Boards.set("pppppppp/8/8/8/8/8/8/PPPPPPPP")}) {
            boolean setting = board.side() < 0;
            CHECKS.due("at(0)", board.at(0), setting ? 1 : 4);
            CHECKS.due("at(63)", board.at(63), setting ? 7 : 10);
            for (int square : NO_SQUARES) {
                CHECKS.due("at(" + square + ")", board.at(square), 0);
            }
        }
    }

    private static void nthNumbers() {
        String[] boards = {Boards.START, "R6R/3Q4/1Q4Q1/4Q3/2Q4Q/Q4Q2/pp1Q4/kBNN1KB1 w - -",
            "8/8/8/8/8/6k1/5q2/7K w - -", "8/8/8/8/8/5k2/6q1/7K w - -", "7K/8/8/8/8/8/6q1/3k4 w - -"};
        int[] counts = {20, 218, 0, 0, 1};
        for (int n = 0; n < boards.length; n++) {
            CHECKS.sentence("nth: there is no such move, of " + counts[n]);
            String told = boards[n];
            int count = counts[n];
            RuledBoard board = Boards.of(told);
            CHECKS.due("moves()", board.moves(), count);
            int last = -1;
            for (int k = 0; k < count; k++) {
                int code = board.nth(k);
                int place = (code & 63) << 9 | (code >> 6 & 63) << 3 | code >> 12;
                CHECKS.due("nth(" + k + ") comes behind the one before", place > last, true);
                last = place;
            }
            for (int k : new int[] {MIN, -count, -1, count, count + 1, 415, 416, MAX}) {
                if (k < 0 || k >= count) {
                    refuse("nth(" + k + ")", () -> Boards.of(told), b -> b.nth(k));
                }
            }
        }
    }

    private static void hitsNumbers() {
        CHECKS.sentence("hits: no such side or square");
        RuledBoard corners = Boards.set("R6r/8/8/8/8/8/8/r6R");
        CHECKS.due("hits(0, 0)", corners.hits(0, 0), true);
        CHECKS.due("hits(1, 63)", corners.hits(1, 63), false);
        CHECKS.due("hits(0, 63)", corners.hits(0, 63), true);
        CHECKS.due("hits(1, 0)", corners.hits(1, 0), false);
        for (Twins.Maker maker : new Twins.Maker[] {BoundsTest::setting, BoundsTest::playing}) {
            for (int square : NO_SQUARES) {
                refuse("hits(0, " + square + ")", maker, b -> b.hits(0, square) ? 1 : 0);
                refuse("hits(1, " + square + ")", maker, b -> b.hits(1, square) ? 1 : 0);
            }
            for (int side : new int[] {MIN, -2, -1, 2, 3, 256, MAX}) {
                refuse("hits(" + side + ", 0)", maker, b -> b.hits(side, 0) ? 1 : 0);
                refuse("hits(" + side + ", 63)", maker, b -> b.hits(side, 63) ? 1 : 0);
                refuse("hits(" + side + ", 64)", maker, b -> b.hits(side, 64) ? 1 : 0);
            }
        }
    }

    private static void mateNumbers() {
        CHECKS.sentence("mate: most is not 0 .. 2");
        String inTwo = "8/4k3/1R6/R7/8/8/8/6K1 w - -";
        CHECKS.due("mate(0)", Boards.of(inTwo).mate(0), 0);
        CHECKS.due("mate(1)", Boards.of(inTwo).mate(1), 0);
        CHECKS.due("mate(2)", Boards.of(inTwo).mate(2), 2);
        for (int most : new int[] {MIN, -2, -1, 3, 4, 256, MAX}) {
            refuse("mate(" + most + ")", () -> Boards.of(inTwo), b -> b.mate(most));
            refuse("mate(" + most + ") in mate", () -> Boards.of("R5k1/5ppp/8/8/8/8/8/6K1 b - -"),
                    b -> b.mate(most));
            refuse("mate(" + most + ") in a game", BoundsTest::playing, b -> b.mate(most));
        }
    }

    private static void refuse(String call, Twins.Maker maker, Twins.Asked asked) {
        Twins.argument(CHECKS, call, maker, asked);
    }
}
