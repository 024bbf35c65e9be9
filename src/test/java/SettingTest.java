/** Promises 1 to 4: a new object, clear, put, begin. */
public final class SettingTest {
    private static final Checks CHECKS = new Checks();

    public static void main(String[] args) {
        newObject();
        clearing();
        putting();
        beginning();
        beginningRefusesNumbers();
        beginningRefusesPieces();
        beginningRefusesRights();
        beginningRefusesPassed();
        CHECKS.finish();
    }

    private static void newObject() {
        RuledBoard board = new RuledBoard();
        int[] home = {4, 2, 3, 5, 6, 3, 2, 4};
        for (int square = 0; square < 64; square++) {
            int rank = square / 8;
            int want = rank == 0 ? home[square % 8] : rank == 1 ? 1 : rank == 6 ? 7
                    : rank == 7 ? home[square % 8] + 6 : 0;
            CHECKS.due("new: at(" + square + ")", board.at(square), want);
        }
        CHECKS.due("new: side()", board.side(), 0);
        CHECKS.due("new: rights()", board.rights(), 15);
        CHECKS.due("new: passed()", board.passed(), -1);
        CHECKS.due("new: made()", board.made(), 0);
        CHECKS.due("new: quiet()", board.quiet(), 0);
        CHECKS.due("new: seen()", board.seen(), 1);
        CHECKS.due("new: moves()", board.moves(), 20);
        CHECKS.state("new: put is not for now", () -> board.put(20, 1));
        CHECKS.state("new: begin is not for now", () -> board.begin(0, 15, -1));
    }

    private static void clearing() {
        RuledBoard board = new RuledBoard();
        Boards.play(board, "e2e4 e7e5");
        board.clear();
        for (int square = 0; square < 64; square++) {
            CHECKS.due("clear: at(" + square + ")", board.at(square), 0);
        }
        CHECKS.due("clear: side()", board.side(), -1);
        CHECKS.due("clear: rights()", board.rights(), 0);
        CHECKS.due("clear: passed()", board.passed(), -1);
        CHECKS.due("clear: made()", board.made(), 0);
        CHECKS.state("clear: undo()", () -> board.undo());
        board.put(9, 5);
        board.clear();
        CHECKS.due("clear twice: at(9)", board.at(9), 0);
        CHECKS.due("clear twice: still being set", board.put(9, 12), 0);
    }

    private static void putting() {
        RuledBoard board = Boards.set("8/8/8/8/8/8/8/8");
        for (int piece = 0; piece <= 12; piece++) {
            CHECKS.due("put(63, " + piece + ")", board.put(63, piece), Math.max(0, piece - 1));
            CHECKS.due("at(63)", board.at(63), piece);
        }
        CHECKS.due("put(63, 0)", board.put(63, 0), 12);
        CHECKS.due("put(0, 1)", board.put(0, 1), 0);
        CHECKS.argument("put(-1, 1)", () -> board.put(-1, 1));
        CHECKS.argument("put(64, 1)", () -> board.put(64, 1));
        CHECKS.argument("put(0, -1)", () -> board.put(0, -1));
        CHECKS.argument("put(0, 13)", () -> board.put(0, 13));
        CHECKS.argument("put(max, min)", () -> board.put(Integer.MAX_VALUE, Integer.MIN_VALUE));
        CHECKS.due("what was refused changed nothing", board.at(0), 1);
        RuledBoard playing = new RuledBoard();
        CHECKS.state("put in play", () -> playing.put(20, 1));
        CHECKS.state("put in play, wrong numbers too", () -> playing.put(64, 13));
        CHECKS.due("put in play changed nothing", playing.at(20), 0);
    }

    private static void beginning() {
        RuledBoard board = Boards.set("r3k2r/8/8/2pP4/8/8/8/R3K2R");
        CHECKS.due("begin(0, 15, 2)", board.begin(0, 15, 2), 28);
        CHECKS.due("side()", board.side(), 0);
        CHECKS.due("rights()", board.rights(), 15);
        CHECKS.due("passed()", board.passed(), 2);
        CHECKS.due("made()", board.made(), 0);
        CHECKS.due("quiet()", board.quiet(), 0);
        CHECKS.due("seen()", board.seen(), 1);
        CHECKS.state("begin in play", () -> board.begin(0, 15, 2));
        CHECKS.state("begin in play, wrong numbers too", () -> board.begin(2, 16, 8));
        CHECKS.due("begin for black", Boards.set("4k3/8/8/8/8/8/8/4K3").begin(1, 0, -1), 5);
        CHECKS.due("begin in mate", Boards.set("R5k1/5ppp/8/8/8/8/8/6K1").begin(1, 0, -1), 0);
        RuledBoard later = new RuledBoard();
        Boards.play(later, "g1f3 g8f6 f3g1 f6g8");
        later.clear();
        Boards.put(later, "rnbqkbnr/pppppppp/8/8/8/8/PPPPPPPP/RNBQKBNR");
        CHECKS.due("begin anew", later.begin(0, 15, -1), 20);
        CHECKS.due("what was before the beginning is not seen", later.seen(), 1);
        CHECKS.due("nor quiet", later.quiet(), 0);
        CHECKS.due("nor made", later.made(), 0);
        CHECKS.state("nor taken back", () -> later.undo());
    }

    private static void beginningRefusesNumbers() {
        RuledBoard board = Boards.set("r3k2r/8/8/8/8/8/8/R3K2R");
        CHECKS.argument("side -1", () -> board.begin(-1, 0, -1));
        CHECKS.argument("side 2", () -> board.begin(2, 0, -1));
        CHECKS.argument("rights -1", () -> board.begin(0, -1, -1));
        CHECKS.argument("rights 16", () -> board.begin(0, 16, -1));
        CHECKS.argument("passed -2", () -> board.begin(0, 0, -2));
        CHECKS.argument("passed 8", () -> board.begin(0, 0, 8));
        CHECKS.due("it stays being set", board.side(), -1);
        CHECKS.due("and can be put on", board.put(63, 0), 10);
        CHECKS.due("and can begin", board.begin(0, 3, -1), 26);
    }

    private static void beginningRefusesPieces() {
        refused("8/8/8/8/8/8/8/8", 0, 0, -1);
        refused("8/8/8/8/8/8/8/4K3", 0, 0, -1);
        refused("4k3/8/8/8/8/8/8/8", 1, 0, -1);
        refused("4k3/8/8/8/8/8/8/K3K3", 0, 0, -1);
        refused("k3k3/8/8/8/8/8/8/4K3", 0, 0, -1);
        refused("4k3/8/8/8/NN6/8/PPPPPPPP/RNBQKBNR", 0, 0, -1);
        allowed("4k3/8/8/8/8/8/PPPPPPPP/RNBQKBNR", 0, 0, -1);
        refused("rnbqkbnr/pppppppp/8/n7/8/8/8/4K3", 0, 0, -1);
        allowed("rnbqkbnr/pppppppp/8/8/8/8/8/4K3", 0, 0, -1);
        refused("4k2P/8/8/8/8/8/8/4K3", 0, 0, -1);
        refused("4k3/8/8/8/8/8/8/P3K3", 0, 0, -1);
        refused("p3k3/8/8/8/8/8/8/4K3", 0, 0, -1);
        refused("4k3/8/8/8/8/8/8/4K2p", 0, 0, -1);
        allowed("4k3/P6p/8/8/8/8/p6P/4K3", 0, 0, -1);
        refused("4k3/8/8/8/8/8/8/4RK2", 0, 0, -1);
        allowed("4k3/8/8/8/8/8/8/4RK2", 1, 0, -1);
        refused("4k3/8/8/8/8/3n4/8/4K3", 1, 0, -1);
        refused("8/8/8/3kK3/8/8/8/8", 0, 0, -1);
        refused("8/8/8/3kK3/8/8/8/8", 1, 0, -1);
    }

    private static void beginningRefusesRights() {
        for (int rights = 0; rights < 16; rights++) {
            allowed("r3k2r/8/8/8/8/8/8/R3K2R", 0, rights, -1);
            allowedOnlyWithout("r3k2r/8/8/8/8/8/8/R3K3", rights, 1);
            allowedOnlyWithout("r3k2r/8/8/8/8/8/8/4K2R", rights, 2);
            allowedOnlyWithout("r3k3/8/8/8/8/8/8/R3K2R", rights, 4);
            allowedOnlyWithout("4k2r/8/8/8/8/8/8/R3K2R", rights, 8);
            allowedOnlyWithout("r3k2r/8/8/8/8/8/8/R4K1R", rights, 3);
            allowedOnlyWithout("r3k2r/8/8/8/8/8/4K3/R6R", rights, 3);
            allowedOnlyWithout("r2k3r/8/8/8/8/8/8/R3K2R", rights, 12);
            allowedOnlyWithout("r6r/4k3/8/8/8/8/8/R3K2R", rights, 12);
            allowedOnlyWithout("R3k2r/8/8/8/8/8/8/R3K2R", rights, 8, 1);
            allowedOnlyWithout("r3k2r/8/8/8/8/8/8/R3K2r", rights, 1);
            allowedOnlyWithout("r3k2r/8/8/8/8/8/8/Q3K2B", rights, 3);
        }
    }

    private static void beginningRefusesPassed() {
        allowed("4k3/8/8/p7/8/8/8/4K3", 0, 0, 0);
        allowed("4k3/8/8/7p/8/8/8/4K3", 0, 0, 7);
        allowed("4k3/8/8/8/7P/8/8/4K3", 1, 0, 7);
        allowed("4k3/8/8/8/P7/8/8/4K3", 1, 0, 0);
        refused("4k3/8/8/p7/8/8/8/4K3", 0, 0, 1);
        refused("4k3/8/8/p7/8/8/8/4K3", 1, 0, 0);
        refused("4k3/8/8/P7/8/8/8/4K3", 0, 0, 0);
        refused("4k3/8/8/n7/8/8/8/4K3", 0, 0, 0);
        refused("4k3/8/8/8/p7/8/8/4K3", 0, 0, 0);
        refused("4k3/8/p7/8/8/8/8/4K3", 0, 0, 0);
        refused("4k3/8/n7/p7/8/8/8/4K3", 0, 0, 0);
        refused("4k3/N7/8/p7/8/8/8/4K3", 0, 0, 0);
        allowed("n3k3/8/8/p7/N7/8/8/4K3", 0, 0, 0);
        refused("4k3/8/8/8/3P4/3n4/8/4K3", 0, 0, 3);
        refused("4k3/8/8/8/3P4/3B4/8/4K3", 1, 0, 3);
        refused("4k3/8/8/8/3P4/8/3B4/4K3", 1, 0, 3);
        allowed("4k3/8/8/3b4/3P4/8/8/3BK3", 1, 0, 3);
    }

    private static void allowedOnlyWithout(String placing, int rights, int missing) {
        allowedOnlyWithout(placing, rights, missing, 0);
    }

    private static void allowedOnlyWithout(String placing, int rights, int missing, int side) {
        if ((rights & missing) != 0) {
            refused(placing, side, rights, -1);
        } else {
            allowed(placing, side, rights, -1);
        }
    }

    private static void allowed(String placing, int side, int rights, int passed) {
        RuledBoard board = Boards.set(placing);
        String what = "begin of " + placing + " with " + side + " " + rights + " " + passed;
        int count = board.begin(side, rights, passed);
        CHECKS.due(what, count, board.moves());
        CHECKS.due(what + ": side()", board.side(), side);
        CHECKS.due(what + ": rights()", board.rights(), rights);
        CHECKS.due(what + ": passed()", board.passed(), passed);
    }

    private static void refused(String placing, int side, int rights, int passed) {
        RuledBoard board = Boards.set(placing);
        String before = Boards.look(board);
        String what = "begin of " + placing + " with " + side + " " + rights + " " + passed;
        CHECKS.argument(what, () -> board.begin(side, rights, passed));
        CHECKS.dueText(what + " changed nothing", Boards.look(board), before);
    }
}
