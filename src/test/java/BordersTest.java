import java.util.ArrayList;
import java.util.List;

/** What a piece hits and where it goes: from every square, so that no way leads over the border. */
public final class BordersTest {
    private static final Checks CHECKS = new Checks();

    public static void main(String[] args) {
        hitsAlone();
        hitsUpToTheFirstPiece();
        checksBySide();
        movesOfPieces();
        neverOntoOwn();
        pawnsAhead();
        pawnsFromSecondRank();
        pawnsTake();
        pawnsOnLastRank();
        noMoveIntoCheck();
        CHECKS.finish();
    }

    /** The words of the document on an empty board, by files and ranks away. */
    private static boolean isHit(int piece, int from, int square) {
        int files = Math.abs(square % 8 - from % 8);
        int up = square / 8 - from / 8;
        int ranks = Math.abs(up);
        if (square == from) {
            return false;
        }
        switch ((piece - 1) % 6 + 1) {
            case 1:
                return files == 1 && up == (piece == 1 ? 1 : -1);
            case 2:
                return files == 2 && ranks == 1 || files == 1 && ranks == 2;
            case 3:
                return files == ranks;
            case 4:
                return files == 0 || ranks == 0;
            case 5:
                return files == ranks || files == 0 || ranks == 0;
            default:
                return files <= 1 && ranks <= 1;
        }
    }

    private static void hitsAlone() {
        CHECKS.sentence("hits: up to the border, from each square");
        for (int piece = 1; piece <= 12; piece++) {
            int side = piece > 6 ? 1 : 0;
            for (int from = 0; from < 64; from++) {
                RuledBoard board = Boards.set("8/8/8/8/8/8/8/8");
                board.put(from, piece);
                StringBuilder got = new StringBuilder();
                StringBuilder want = new StringBuilder();
                for (int square = 0; square < 64; square++) {
                    got.append(board.hits(side, square) ? "1" : "0").append(board.hits(1 - side, square) ? "1" : "0");
                    want.append(isHit(piece, from, square) ? "1" : "0").append("0");
                }
                CHECKS.dueText(piece + " on " + from + " hits", got.toString(), want.toString());
            }
        }
    }

    private static void hitsUpToTheFirstPiece() {
        CHECKS.sentence("hits: as far as all squares in between are empty");
        int[][] ways = {{1, 0}, {0, 1}, {-1, 0}, {0, -1}, {1, 1}, {-1, 1}, {-1, -1}, {1, -1}};
        for (int way = 0; way < 8; way++) {
            for (int piece : new int[] {way < 4 ? 4 : 3, 5, way < 4 ? 10 : 9, 11}) {
                int side = piece > 6 ? 1 : 0;
                for (int stop = 1; stop <= 12; stop++) {
                    for (int distance = 1; distance <= 3; distance++) {
                        int from = 27;
                        RuledBoard board = Boards.set("8/8/8/8/8/8/8/8");
                        board.put(from, piece);
                        board.put(from + distance * (ways[way][0] + 8 * ways[way][1]), stop);
                        hitsAlongTheWay(board, side, ways[way], distance, piece + " stopped by " + stop);
                    }
                }
            }
        }
    }

    /** The piece that stops is hit itself; of what lies behind it only what it hits itself, if of the same side. */
    private static void hitsAlongTheWay(RuledBoard board, int side, int[] way, int distance, String what) {
        int step = way[0] + 8 * way[1];
        int stop = board.at(27 + distance * step);
        boolean sameSide = (stop > 6 ? 1 : 0) == side;
        for (int n = 1; n <= 3; n++) {
            int square = 27 + n * step;
            boolean want = n <= distance || sameSide && isHit(stop, 27 + distance * step, square);
            CHECKS.due(what + " at " + distance + " by " + step + ", hits by " + n, board.hits(side, square), want);
        }
    }

    private static void checksBySide() {
        CHECKS.sentence("check: when a piece of the other side hits the square of its king");
        String[] others = {"8/8/8/8/8/3n4/8/4K2k", "8/8/8/8/1b6/8/8/4K2k", "4r3/8/8/8/8/8/8/4K2k",
            "8/8/8/8/7q/8/8/4K1k1", "8/8/8/8/8/8/3p4/4K2k", "8/8/8/8/8/8/5p2/4K2k"};
        for (String placing : others) {
            CHECKS.due(placing, Boards.of(placing + " w - -").check(), true);
            String own = placing.replace('n', 'N').replace('b', 'B').replace('r', 'R').replace('q', 'Q')
                    .replace('p', 'P');
            CHECKS.due(own, Boards.of(own + " w - -").check(), false);
        }
        CHECKS.due("a pawn ahead", Boards.of("8/8/8/8/8/8/4p3/4K2k w - -").check(), false);
        CHECKS.due("a pawn beside", Boards.of("8/8/8/8/8/3K4/2p5/7k w - -").check(), false);
        CHECKS.due("a pawn over the border", Boards.of("8/8/8/8/8/7K/p7/4k3 w - -").check(), false);
        CHECKS.due("a pawn over the border", Boards.of("8/8/8/7p/8/K7/8/4k3 w - -").check(), false);
        CHECKS.due("a rook over the border", Boards.of("8/8/8/7r/K7/8/8/4k3 w - -").check(), false);
        CHECKS.due("a knight over the border", Boards.of("8/8/8/7n/8/K7/8/4k3 w - -").check(), false);
        CHECKS.due("a piece between", Boards.of("4r3/8/8/8/4p3/8/8/4K2k w - -").check(), false);
    }

    /** Both kings stand so that no move of the piece is refused, or the square is left out. */
    private static void movesOfPieces() {
        CHECKS.sentence("moves: of a knight, bishop, rook, queen and king to the squares that it hits");
        for (int kind = 2; kind <= 6; kind++) {
            for (int side = 0; side <= 1; side++) {
                for (int from = 0; from < 64; from++) {
                    RuledBoard board = loneBoard(kind, side, from);
                    if (board != null) {
                        CHECKS.dueText(kind + " of " + side + " on " + from, codesFrom(board, from).toString(),
                                codesByHits(board, kind + 6 * side, from).toString());
                    }
                }
            }
        }
    }

    /** Null where no such board can begin. */
    private static RuledBoard loneBoard(int kind, int side, int from) {
        int[] corners = {0, 7, 56, 63};
        for (int own : corners) {
            for (int other : corners) {
                RuledBoard board = Boards.set("8/8/8/8/8/8/8/8");
                board.put(own, 6 + 6 * side);
                board.put(other, 12 - 6 * side);
                if (kind == 6) {
                    board.put(own, 0);
                }
                boolean free = board.at(from) == 0 && (own != other || kind == 6);
                board.put(from, kind + 6 * side);
                if (free && canBegin(board, side)) {
                    return board;
                }
            }
        }
        return null;
    }

    private static boolean canBegin(RuledBoard board, int side) {
        return !Checks.told(() -> board.begin(side, 0, -1)).startsWith("throws");
    }

    private static List<Integer> codesFrom(RuledBoard board, int from) {
        List<Integer> codes = new ArrayList<>();
        int count = board.moves();
        for (int k = 0; k < count; k++) {
            if ((board.nth(k) & 63) == from) {
                codes.add(board.nth(k));
            }
        }
        return codes;
    }

    private static List<Integer> codesByHits(RuledBoard board, int piece, int from) {
        List<Integer> codes = new ArrayList<>();
        for (int to = 0; to < 64; to++) {
            boolean kingStays = (piece - 1) % 6 != 5 || !board.hits(1 - board.side(), to);
            boolean open = board.hits(board.side(), to) && isHit(piece, from, to) && isOpen(board, from, to);
            if (open && kingStays && board.at(to) == 0) {
                codes.add(from + 64 * to);
            }
        }
        return codes;
    }

    private static boolean isOpen(RuledBoard board, int from, int to) {
        int files = Integer.signum(to % 8 - from % 8);
        int ranks = Integer.signum(to / 8 - from / 8);
        if (!isHit(5, from, to)) {
            return true;
        }
        for (int square = from + files + 8 * ranks; square != to; square += files + 8 * ranks) {
            if (board.at(square) != 0) {
                return false;
            }
        }
        return true;
    }

    private static void neverOntoOwn() {
        CHECKS.sentence("moves: what stands on the square to is never a piece of its own");
        for (int piece = 2; piece <= 5; piece++) {
            for (int own = 1; own <= 5; own++) {
                int to = piece == 2 ? 44 : piece == 3 ? 36 : 35;
                RuledBoard blocked = Boards.set("8/7k/8/8/8/8/8/K7");
                blocked.put(27, piece);
                blocked.put(to, own);
                blocked.begin(0, 0, -1);
                CHECKS.argument(piece + " onto " + own, () -> blocked.move(27, to, 0));
                RuledBoard taking = Boards.set("8/7k/8/8/8/8/8/K7");
                taking.put(27, piece);
                taking.put(to, own + 6);
                taking.begin(0, 0, -1);
                CHECKS.due(piece + " onto " + (own + 6), taking.move(27, to, 0), 1);
                CHECKS.due("which goes off the board", taking.at(to), piece);
            }
        }
    }

    private static RuledBoard pawnBoard(int side, int file, int rank, int ahead, int behind) {
        RuledBoard board = Boards.set("8/8/8/8/8/8/8/8");
        board.put(file < 4 ? 31 : 24, 6);
        board.put(file < 4 ? 47 : 40, 12);
        int step = side == 0 ? 8 : -8;
        int from = 8 * rank + file;
        board.put(from, 1 + 6 * side);
        if (ahead != 0) {
            board.put(from + step, ahead);
        }
        if (behind != 0) {
            board.put(from + 2 * step, behind);
        }
        board.begin(side, 0, -1);
        return board;
    }

    private static String pawnMoves(RuledBoard board, int from) {
        StringBuilder text = new StringBuilder();
        for (int code : codesFrom(board, from)) {
            text.append(text.length() == 0 ? "" : " ").append(code >> 6 & 63).append(':').append(code >> 12);
        }
        return text.toString();
    }

    private static void pawnsAhead() {
        CHECKS.sentence("moves: of a pawn to the square ahead when it is empty");
        for (int side = 0; side <= 1; side++) {
            int step = side == 0 ? 8 : -8;
            for (int file = 0; file < 8; file++) {
                for (int rank = 2; rank <= 5; rank++) {
                    int from = 8 * rank + file;
                    CHECKS.dueText("pawn of " + side + " on " + from, pawnMoves(pawnBoard(side, file, rank, 0, 0), from),
                            (from + step) + ":0");
                    CHECKS.dueText("pawn of " + side + " on " + from + " before an own one",
                            pawnMoves(pawnBoard(side, file, rank, 2 + 6 * side, 0), from), "");
                    CHECKS.dueText("pawn of " + side + " on " + from + " before another",
                            pawnMoves(pawnBoard(side, file, rank, 7 - 6 * side, 0), from), "");
                }
            }
        }
    }

    private static void pawnsFromSecondRank() {
        CHECKS.sentence("moves: of a pawn from its second rank, when both are empty");
        for (int side = 0; side <= 1; side++) {
            int step = side == 0 ? 8 : -8;
            int rank = side == 0 ? 1 : 6;
            for (int file = 0; file < 8; file++) {
                int from = 8 * rank + file;
                String what = "pawn of " + side + " on " + from;
                int near = Math.min(from + step, from + 2 * step);
                int far = Math.max(from + step, from + 2 * step);
                CHECKS.dueText(what, pawnMoves(pawnBoard(side, file, rank, 0, 0), from), near + ":0 " + far + ":0");
                for (int piece : new int[] {1, 7}) {
                    CHECKS.dueText(what + ", second not empty",
                            pawnMoves(pawnBoard(side, file, rank, 0, piece), from), (from + step) + ":0");
                    CHECKS.dueText(what + ", first not empty",
                            pawnMoves(pawnBoard(side, file, rank, piece, 0), from), "");
                    CHECKS.dueText(what + ", none empty",
                            pawnMoves(pawnBoard(side, file, rank, piece, piece), from), "");
                }
                RuledBoard board = pawnBoard(side, file, rank, 0, 0);
                board.move(from, from + 2 * step, 0);
                CHECKS.due(what + " came", board.at(from + 2 * step), 1 + 6 * side);
                CHECKS.due(what + " left", board.at(from), 0);
                CHECKS.due(what + " stands nowhere between", board.at(from + step), 0);
            }
        }
    }

    private static void pawnsTake() {
        CHECKS.sentence("moves: of a pawn to those that it hits where a piece of the other side stands");
        for (int from = 16; from < 48; from++) {
            for (int to = 8; to < 56; to++) {
                for (int piece = 1; piece <= 7 && to != from; piece += 6) {
                    pawnTakes(0, from, to, piece);
                    pawnTakes(1, from, to, piece);
                }
            }
        }
    }

    /** Boards on which the other pawn gives check tell nothing about this one, and are left out. */
    private static void pawnTakes(int side, int from, int to, int piece) {
        RuledBoard board = Boards.set("8/8/8/8/8/8/8/8");
        board.put(from % 8 < 4 ? 7 : 0, 6);
        board.put(from % 8 < 4 ? 63 : 56, 12);
        board.put(to, piece);
        board.put(from, 1 + 6 * side);
        if (!canBegin(board, side) || board.check()) {
            return;
        }
        int next = from + (side == 0 ? 8 : -8);
        String ahead = to == next ? "" : next + ":0";
        String want = ahead;
        if (piece == 7 - 6 * side && isHit(1 + 6 * side, from, to)) {
            want = to < next ? to + ":0 " + ahead : ahead + " " + to + ":0";
        }
        CHECKS.dueText("pawn of " + side + " on " + from + ", " + piece + " on " + to, pawnMoves(board, from), want);
    }

    private static void pawnsOnLastRank() {
        CHECKS.sentence("moves: a pawn that comes to the last rank is promoted");
        for (int side = 0; side <= 1; side++) {
            int rank = side == 0 ? 6 : 1;
            int step = side == 0 ? 8 : -8;
            for (int file = 0; file < 8; file++) {
                int from = 8 * rank + file;
                RuledBoard board = Boards.set("8/8/8/8/8/8/8/8");
                board.put(file < 4 ? 31 : 24, 6);
                board.put(file < 4 ? 47 : 40, 12);
                board.put(from, 1 + 6 * side);
                StringBuilder want = new StringBuilder();
                for (int beside = -1; beside <= 1; beside++) {
                    if (file + beside >= 0 && file + beside <= 7) {
                        int to = from + step + beside;
                        board.put(to, beside == 0 ? 0 : 8 - 6 * side);
                        for (int promotion = 2; promotion <= 5; promotion++) {
                            want.append(want.length() == 0 ? "" : " ").append(to).append(':').append(promotion);
                        }
                    }
                }
                board.begin(side, 0, -1);
                CHECKS.dueText("pawn of " + side + " on " + from, pawnMoves(board, from), want.toString());
                for (int code : codesFrom(board, from)) {
                    int to = code >> 6 & 63;
                    int stood = board.at(to);
                    board.move(from, to, code >> 12);
                    CHECKS.due("it becomes " + code, board.at(to), (code >> 12) + 6 * side);
                    CHECKS.due("it is gone", board.at(from), 0);
                    board.undo();
                    CHECKS.due("it is back", board.at(from), 1 + 6 * side);
                    CHECKS.due("what stood there too", board.at(to), stood);
                }
            }
        }
    }

    private static void noMoveIntoCheck() {
        CHECKS.sentence("moves: no move after which the own side would be in check");
        String[] pinned = {"4r2k/8/8/8/8/8/4N3/4K3 w - -", "7k/8/8/b7/8/8/3R4/4K3 w - -",
            "7k/8/8/8/8/8/8/q2BK3 w - -", "7k/8/8/8/7b/8/5N2/4K3 w - -"};
        String[] froms = {"e2", "d2", "d1", "f2"};
        for (int n = 0; n < pinned.length; n++) {
            CHECKS.dueText(pinned[n], Boards.movesOf(Boards.of(pinned[n]), froms[n]), "");
        }
        Twins.argument(CHECKS, "a king beside a king", () -> Boards.of("8/8/8/3k4/8/3K4/8/8 w - -"),
                b -> Boards.move(b, "d3d4"));
        Twins.argument(CHECKS, "a king stays on the way of a rook", () -> Boards.of("4r2k/8/8/8/4K3/8/8/8 w - -"),
                b -> Boards.move(b, "e4e3"));
        Twins.argument(CHECKS, "a king takes what is held", () -> Boards.of("4r2k/8/8/4p3/4K3/8/8/8 w - -"),
                b -> Boards.move(b, "e4e5"));
        CHECKS.due("a king takes what is not held",
                Boards.move(Boards.of("7k/8/8/4p3/4K3/8/8/8 w - -"), "e4e5"), 1);
        Twins.argument(CHECKS, "a move that leaves the check", () -> Boards.of("4r2k/8/8/8/8/8/P7/4K3 w - -"),
                b -> Boards.move(b, "a2a3"));
        CHECKS.due("a piece put between", Boards.move(Boards.of("4r2k/8/8/8/8/3P4/8/R3K3 w - -"), "e1d1"), 1);
        CHECKS.dueText("of two that check one taken is not enough",
                Boards.moves(Boards.of("4r2k/8/8/8/8/3n4/Q7/4K3 w - -")), "e1d1 e1f1 e1d2");
    }
}
