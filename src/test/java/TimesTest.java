/** "IllegalStateException when a call is not for this time": each call in every kind of time. */
public final class TimesTest {
    private static final Checks CHECKS = new Checks();
    private static final int MIN = Integer.MIN_VALUE;
    private static final int MAX = Integer.MAX_VALUE;

    public static void main(String[] args) {
        whileSet("cleared at once", () -> cleared());
        whileSet("cleared in a game", () -> clearedInGame());
        whileSet("cleared twice", () -> clearedTwice());
        whileSet("ready to begin", () -> Boards.set("r3k2r/8/8/8/8/8/8/R3K2R"));
        whileSet("not ready to begin", () -> Boards.set("P3k2r/8/8/8/8/8/8/R2KK2R"));
        whileSet("after a begin that was refused", () -> refusedBegin());
        inPlay("new", () -> new RuledBoard());
        inPlay("in a game", () -> game());
        inPlay("in a game taken back", () -> takenBack());
        inPlay("begun", () -> Boards.of("r3k2r/8/8/2pP4/8/8/8/R3K2R w KQkq c"));
        inPlay("mate", () -> Boards.of("R5k1/5ppp/8/8/8/8/8/6K1 b - -"));
        inPlay("stalemate", () -> Boards.of("k7/2Q5/1K6/8/8/8/8/8 b - -"));
        CHECKS.finish();
    }

    private static RuledBoard cleared() {
        RuledBoard board = new RuledBoard();
        board.clear();
        return board;
    }

    private static RuledBoard clearedInGame() {
        RuledBoard board = game();
        board.clear();
        return board;
    }

    private static RuledBoard clearedTwice() {
        RuledBoard board = Boards.set("r3k2r/8/8/8/8/8/8/R3K2R");
        board.clear();
        return board;
    }

    private static RuledBoard refusedBegin() {
        RuledBoard board = Boards.set("r3k2r/8/8/8/8/8/8/R3K2R");
        CHECKS.argument("begin", () -> board.begin(0, 15, 0));
        return board;
    }

    private static RuledBoard game() {
        RuledBoard board = new RuledBoard();
        Boards.play(board, "e2e4 e7e5 e1e2 d7d5");
        return board;
    }

    private static RuledBoard takenBack() {
        RuledBoard board = game();
        board.undo();
        board.undo();
        return board;
    }

    private static void whileSet(String time, Twins.Maker maker) {
        CHECKS.sentence("being set: " + time);
        refuse("undo()", maker, b -> b.undo());
        refuse("moves()", maker, b -> b.moves());
        refuse("check()", maker, b -> b.check() ? 1 : 0);
        refuse("ending()", maker, b -> b.ending());
        refuse("quiet()", maker, b -> b.quiet());
        refuse("seen()", maker, b -> b.seen());
        for (int k : new int[] {MIN, -1, 0, 1, 19, 20, MAX}) {
            refuse("nth(" + k + ")", maker, b -> b.nth(k));
        }
        for (int most : new int[] {MIN, -1, 0, 1, 2, 3, MAX}) {
            refuse("mate(" + most + ")", maker, b -> b.mate(most));
        }
        refuse("move(4, 5, 0)", maker, b -> b.move(4, 5, 0));
        refuse("move(12, 28, 0)", maker, b -> b.move(12, 28, 0));
        refuse("move(64, -1, 6)", maker, b -> b.move(64, -1, 6));
        answersWhileSet(maker.make());
    }

    /** What is for every time: it answers, and the board stays being set. */
    private static void answersWhileSet(RuledBoard board) {
        CHECKS.due("made()", board.made(), 0);
        CHECKS.due("side()", board.side(), -1);
        CHECKS.due("rights()", board.rights(), 0);
        CHECKS.due("passed()", board.passed(), -1);
        CHECKS.argument("hits(0, 64)", () -> board.hits(0, 64) ? 1 : 0);
        CHECKS.due("at(64)", board.at(64), 0);
        board.put(27, 2);
        CHECKS.due("hits(0, 44)", board.hits(0, 44), true);
        CHECKS.due("hits(1, 44)", board.hits(1, 44), false);
        CHECKS.due("at(27)", board.at(27), 2);
        CHECKS.due("side() still", board.side(), -1);
    }

    private static void inPlay(String time, Twins.Maker maker) {
        CHECKS.sentence("in play: " + time);
        refuse("put(20, 1)", maker, b -> b.put(20, 1));
        refuse("put(20, 0)", maker, b -> b.put(20, 0));
        refuse("put(64, 1)", maker, b -> b.put(64, 1));
        refuse("put(20, 13)", maker, b -> b.put(20, 13));
        refuse("put(-1, -1)", maker, b -> b.put(-1, -1));
        refuse("begin(0, 0, -1)", maker, b -> b.begin(0, 0, -1));
        refuse("begin(1, 0, -1)", maker, b -> b.begin(1, 0, -1));
        refuse("begin(0, 15, -1)", maker, b -> b.begin(0, 15, -1));
        refuse("begin(2, 16, 8)", maker, b -> b.begin(2, 16, 8));
        refuse("begin(-1, -1, -2)", maker, b -> b.begin(-1, -1, -2));
        RuledBoard board = maker.make();
        int count = board.moves();
        CHECKS.due("mate(0)", board.mate(0), 0);
        CHECKS.argument("nth(" + count + ")", () -> board.nth(count));
        CHECKS.argument("hits(2, 0)", () -> board.hits(2, 0) ? 1 : 0);
        CHECKS.due("check() as by hits()", board.check(), board.hits(1 - board.side(), kingOf(board)));
        CHECKS.due("ending()", board.ending(), count > 0 ? 0 : board.check() ? 1 : 2);
        board.clear();
        CHECKS.due("side() after clear()", board.side(), -1);
    }

    private static int kingOf(RuledBoard board) {
        int king = 6 + 6 * board.side();
        for (int square = 0; square < 64; square++) {
            if (board.at(square) == king) {
                return square;
            }
        }
        return -1;
    }

    private static void refuse(String call, Twins.Maker maker, Twins.Asked asked) {
        Twins.state(CHECKS, call, maker, asked);
    }
}
