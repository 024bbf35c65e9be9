import java.util.Arrays;

/**
 * The game of chess by its rules. The face follows the document's promises; what a word in capitals
 * there means (position, move, passing, quiet, seen) is carried by the classes inside.
 */
public final class RuledBoard {

    private static final int WHITE = 0;
    private static final int BLACK = 1;

    private static final int NONE = 0;
    private static final int PAWN = 1;
    private static final int KNIGHT = 2;
    private static final int BISHOP = 3;
    private static final int ROOK = 4;
    private static final int QUEEN = 5;
    private static final int KING = 6;
    /** A piece is its kind plus this many for each side before its own. */
    private static final int KINDS = 6;
    private static final int LAST_PIECE = 12;

    private static final int SQUARES = 64;
    private static final int FILES = 8;
    private static final int LAST = 7;
    private static final int NO_FILE = -1;
    private static final int NO_SQUARE = -1;
    private static final int WHITE_KING_HOME = 4;
    private static final int BLACK_KING_HOME = 60;

    private static final int ALL_RIGHTS = 15;
    private static final int MOST_PIECES = 16;
    private static final int MOST_MADE = 150;
    private static final int MOST_TO_MATE = 2;
    /** Fifteen queens on open ways (27 squares each), a king's eight squares and two castlings. */
    private static final int MOST_CANDIDATES = 415;

    private final Position position = new Position();
    private final History history = new History();
    private final MoveRow row = new MoveRow();
    private final MateSearch search = new MateSearch();
    private boolean playing;

    public RuledBoard() {
        position.putHomePieces();
        startPlay(WHITE, ALL_RIGHTS, NO_FILE);
    }

    public void clear() {
        playing = false;
        Arrays.fill(position.squares, NONE);
    }

    public int put(int square, int piece) throws IllegalStateException, IllegalArgumentException {
        refuseInPlay();
        if (!isSquare(square) || piece < NONE || piece > LAST_PIECE) {
            throw new IllegalArgumentException("no such square or piece");
        }
        int stood = position.squares[square];
        position.squares[square] = piece;
        return stood;
    }

    public int begin(int side, int rights, int passed)
            throws IllegalStateException, IllegalArgumentException {
        refuseInPlay();
        if (!Beginning.isAllowed(position, side, rights, passed)) {
            throw new IllegalArgumentException("no game can begin so");
        }
        startPlay(side, rights, passed);
        return position.listMoves(row);
    }

    public int move(int from, int to, int promotion)
            throws IllegalStateException, IllegalArgumentException {
        refuseWhileSet();
        if (history.made >= MOST_MADE) {
            throw new IllegalStateException("no more moves can be made");
        }
        if (!isThere(from, to, promotion)) {
            throw new IllegalArgumentException("no such move");
        }
        history.makeMove(position, codeOf(from, to, promotion));
        history.notePosition(position, position.passingMoves());
        return history.made;
    }

    public int undo() throws IllegalStateException {
        refuseWhileSet();
        if (history.made == 0) {
            throw new IllegalStateException("no move to take back");
        }
        history.takeMoveBack(position);
        return history.made;
    }

    public int made() {
        return playing ? history.made : 0;
    }

    public int at(int square) {
        return isSquare(square) ? position.squares[square] : NONE;
    }

    public int side() {
        return playing ? position.side : -1;
    }

    public int rights() {
        return playing ? position.rights : 0;
    }

    public int passed() {
        return playing ? position.passed : NO_FILE;
    }

    public int moves() throws IllegalStateException {
        refuseWhileSet();
        return position.listMoves(row);
    }

    public int nth(int k) throws IllegalStateException, IllegalArgumentException {
        refuseWhileSet();
        int count = position.listMoves(row);
        if (k < 0 || k >= count) {
            throw new IllegalArgumentException("no such move");
        }
        return row.codes[k];
    }

    public boolean check() throws IllegalStateException {
        refuseWhileSet();
        return position.isInCheck(position.side);
    }

    public int ending() throws IllegalStateException {
        refuseWhileSet();
        if (position.listMoves(row) > 0) {
            return 0;
        }
        return position.isInCheck(position.side) ? 1 : 2;
    }

    public int quiet() throws IllegalStateException {
        refuseWhileSet();
        return history.quietNow();
    }

    public int seen() throws IllegalStateException {
        refuseWhileSet();
        return history.countSame();
    }

    public boolean hits(int side, int square) throws IllegalArgumentException {
        if (!isSide(side) || !isSquare(square)) {
            throw new IllegalArgumentException("no such side or square");
        }
        return position.isHitBy(side, square);
    }

    public int mate(int most) throws IllegalStateException, IllegalArgumentException {
        refuseWhileSet();
        if (most < 0 || most > MOST_TO_MATE) {
            throw new IllegalArgumentException("most is not 0 to 2");
        }
        for (int n = 1; n <= most; n++) {
            if (search.forcesMate(position, n, 0)) {
                return n;
            }
        }
        return 0;
    }

    private void startPlay(int side, int rights, int passed) {
        position.side = side;
        position.rights = rights;
        position.passed = passed;
        position.kings[WHITE] = position.squareOf(KING);
        position.kings[BLACK] = position.squareOf(KING + KINDS);
        history.start();
        history.notePosition(position, position.passingMoves());
        playing = true;
    }

    private void refuseInPlay() {
        if (playing) {
            throw new IllegalStateException("the board is in play");
        }
    }

    private void refuseWhileSet() {
        if (!playing) {
            throw new IllegalStateException("the board is being set");
        }
    }

    private boolean isThere(int from, int to, int promotion) {
        if (!isSquare(from) || !isSquare(to) || promotion < NONE || promotion > QUEEN) {
            return false;
        }
        position.listMoves(row);
        return row.holds(codeOf(from, to, promotion));
    }

    private static boolean isSide(int side) {
        return side == WHITE || side == BLACK;
    }

    private static boolean isSquare(int square) {
        return square >= 0 && square < SQUARES;
    }

    private static int codeOf(int from, int to, int promotion) {
        return from + 64 * to + 4096 * promotion;
    }

    /** Moves, each told by its code, in the order in which they were added. */
    private static final class MoveRow {
        final int[] codes = new int[MOST_CANDIDATES];
        int count;

        void add(int code) {
            if (count < codes.length) {
                codes[count] = code;
                count++;
            }
        }

        boolean holds(int code) {
            for (int k = 0; k < count; k++) {
                if (codes[k] == code) {
                    return true;
                }
            }
            return false;
        }
    }

    /**
     * What stands on all squares, the side to move, the rights and the passed file; and what can be
     * said of it alone: what hits what, which moves there are, what becomes of it by one.
     */
    private static final class Position {
        private static final int[] HOME_ROW =
                {ROOK, KNIGHT, BISHOP, QUEEN, KING, BISHOP, KNIGHT, ROOK};

        /** The eight ways, the straight ones first; the three rows go together. */
        private static final int[] WAY_FILES = {1, 0, -1, 0, 1, -1, -1, 1};
        private static final int[] WAY_RANKS = {0, 1, 0, -1, 1, 1, -1, -1};
        private static final int[] WAY_STEPS = {1, 8, -1, -8, 9, 7, -9, -7};
        private static final int WAYS = 8;
        private static final int FIRST_SLANTING = 4;

        /** A knight's jumps; the two rows go together. */
        private static final int[] JUMP_FILES = {1, 2, 2, 1, -1, -2, -2, -1};
        private static final int[] JUMP_RANKS = {2, 1, -1, -2, -2, -1, 1, 2};
        private static final int JUMPS = 8;

        final int[] squares = new int[SQUARES];
        /** Where the king of each side stands, so that no test for check has to look for it. */
        final int[] kings = new int[2];
        int side;
        int rights;
        int passed;

        void putHomePieces() {
            for (int file = 0; file < FILES; file++) {
                squares[file] = HOME_ROW[file];
                squares[8 + file] = PAWN;
                squares[48 + file] = PAWN + KINDS;
                squares[56 + file] = HOME_ROW[file] + KINDS;
            }
        }

        int squareOf(int piece) {
            for (int square = 0; square < SQUARES; square++) {
                if (squares[square] == piece) {
                    return square;
                }
            }
            return NO_SQUARE;
        }

        boolean isInCheck(int ofSide) {
            return isHitBy(1 - ofSide, kings[ofSide]);
        }

        /** Looks from the square outwards, since only the first piece on a way can hit it along that way. */
        boolean isHitBy(int bySide, int square) {
            for (int way = 0; way < WAYS; way++) {
                int steps = stepsToBorder(way, square);
                int from = square;
                boolean open = true;
                for (int distance = 1; distance <= steps && open; distance++) {
                    from += WAY_STEPS[way];
                    open = squares[from] == NONE;
                    if (!open && comesAlong(squares[from] - KINDS * bySide, bySide, way, distance)) {
                        return true;
                    }
                }
            }
            int knight = KNIGHT + KINDS * bySide;
            for (int jump = 0; jump < JUMPS; jump++) {
                int from = squareByJump(jump, square);
                if (from != NO_SQUARE && squares[from] == knight) {
                    return true;
                }
            }
            return false;
        }

        /** The way leads from the square that may be hit to the piece, so a pawn's rank runs backwards. */
        private static boolean comesAlong(int kind, int bySide, int way, int distance) {
            switch (kind) {
                case QUEEN:
                    return true;
                case ROOK:
                    return way < FIRST_SLANTING;
                case BISHOP:
                    return way >= FIRST_SLANTING;
                case KING:
                    return distance == 1;
                case PAWN:
                    return distance == 1 && way >= FIRST_SLANTING
                            && WAY_RANKS[way] == (bySide == WHITE ? -1 : 1);
                default:
                    return false;
            }
        }

        private static int stepsToBorder(int way, int square) {
            int file = square % FILES;
            int rank = square / FILES;
            int byFile = WAY_FILES[way] > 0 ? LAST - file : WAY_FILES[way] < 0 ? file : LAST;
            int byRank = WAY_RANKS[way] > 0 ? LAST - rank : WAY_RANKS[way] < 0 ? rank : LAST;
            return byFile < byRank ? byFile : byRank;
        }

        private static int squareByJump(int jump, int square) {
            int file = square % FILES + JUMP_FILES[jump];
            int rank = square / FILES + JUMP_RANKS[jump];
            boolean onBoard = file >= 0 && file <= LAST && rank >= 0 && rank <= LAST;
            return onBoard ? FILES * rank + file : NO_SQUARE;
        }

        /** Fills the row with the moves that there are, in their order; answers how many. */
        int listMoves(MoveRow row) {
            listCandidates(row);
            int kept = 0;
            for (int k = 0; k < row.count; k++) {
                if (keepsKingSafe(row.codes[k])) {
                    row.codes[kept] = row.codes[k];
                    kept++;
                }
            }
            row.count = kept;
            return kept;
        }

        /** Fills the row with all that would be moves if the own side could be left in check. */
        void listCandidates(MoveRow row) {
            row.count = 0;
            for (int from = 0; from < SQUARES; from++) {
                int kind = squares[from] - KINDS * side;
                if (kind == PAWN) {
                    addPawnMoves(from, row);
                } else if (kind == KING) {
                    addMoves(from, targetsOfPiece(kind, from) | castlingTargets(), row);
                } else if (kind > PAWN && kind < KING) {
                    addMoves(from, targetsOfPiece(kind, from), row);
                }
            }
        }

        boolean keepsKingSafe(int code) {
            int mover = side;
            int before = play(code);
            boolean safe = !isHitBy(1 - mover, kings[mover]);
            takeBack(code, before);
            return safe;
        }

        private void addMoves(int from, long targets, MoveRow row) {
            long left = targets;
            for (int n = Long.bitCount(targets); n > 0; n--) {
                row.add(codeOf(from, lowestOf(left), NONE));
                left &= left - 1;
            }
        }

        private void addPawnMoves(int from, MoveRow row) {
            long targets = targetsOfPawn(from);
            boolean promoted = from / FILES == (side == WHITE ? LAST - 1 : 1);
            if (!promoted) {
                addMoves(from, targets, row);
                return;
            }
            long left = targets;
            for (int n = Long.bitCount(targets); n > 0; n--) {
                for (int promotion = KNIGHT; promotion <= QUEEN; promotion++) {
                    row.add(codeOf(from, lowestOf(left), promotion));
                }
                left &= left - 1;
            }
        }

        /** Targets are a set of squares, a bit each, so that they come out in rising order. */
        private static int lowestOf(long targets) {
            return Long.bitCount((targets & -targets) - 1) % SQUARES;
        }

        private long targetsOfPiece(int kind, int from) {
            switch (kind) {
                case KNIGHT:
                    return targetsOfKnight(from);
                case BISHOP:
                    return targetsOnWays(from, FIRST_SLANTING, WAYS, LAST);
                case ROOK:
                    return targetsOnWays(from, 0, FIRST_SLANTING, LAST);
                case QUEEN:
                    return targetsOnWays(from, 0, WAYS, LAST);
                default:
                    return targetsOnWays(from, 0, WAYS, 1);
            }
        }

        private long targetsOnWays(int from, int firstWay, int endWay, int reach) {
            long targets = 0;
            for (int way = firstWay; way < endWay; way++) {
                int steps = Math.min(reach, stepsToBorder(way, from));
                int to = from;
                boolean open = true;
                for (int distance = 1; distance <= steps && open; distance++) {
                    to += WAY_STEPS[way];
                    open = squares[to] == NONE;
                    if (open || isOther(to)) {
                        targets |= 1L << to;
                    }
                }
            }
            return targets;
        }

        private long targetsOfKnight(int from) {
            long targets = 0;
            for (int jump = 0; jump < JUMPS; jump++) {
                int to = squareByJump(jump, from);
                if (to != NO_SQUARE && (squares[to] == NONE || isOther(to))) {
                    targets |= 1L << to;
                }
            }
            return targets;
        }

        /** A pawn in play never stands on a last rank, so the square ahead of it is on the board. */
        private long targetsOfPawn(int from) {
            int ahead = side == WHITE ? FILES : -FILES;
            int next = from + ahead;
            long targets = 0;
            if (squares[next] == NONE) {
                targets |= 1L << next;
                boolean second = from / FILES == (side == WHITE ? 1 : LAST - 1);
                if (second && squares[next + ahead] == NONE) {
                    targets |= 1L << (next + ahead);
                }
            }
            if (from % FILES > 0 && canPawnTake(next - 1)) {
                targets |= 1L << (next - 1);
            }
            if (from % FILES < LAST && canPawnTake(next + 1)) {
                targets |= 1L << (next + 1);
            }
            return targets;
        }

        private boolean canPawnTake(int to) {
            return isOther(to) || passed != NO_FILE && to == passingTarget();
        }

        private int passingTarget() {
            return passed + FILES * (side == WHITE ? 5 : 2);
        }

        private boolean isOther(int square) {
            int kind = squares[square] - KINDS * (1 - side);
            return kind >= PAWN && kind <= KING;
        }

        /** A right is only there while king and rook stand at home, so these squares are on the board. */
        private long castlingTargets() {
            int king = kings[side];
            boolean toHigh = hasRight(0) && isEmpty(king + 1, king + 2);
            boolean toLow = hasRight(1) && isEmpty(king - 3, king - 1);
            if (!toHigh && !toLow || isHitBy(1 - side, king)) {
                return 0;
            }
            long targets = 0;
            if (toHigh && !isHitBy(1 - side, king + 1)) {
                targets |= 1L << (king + 2);
            }
            if (toLow && !isHitBy(1 - side, king - 1)) {
                targets |= 1L << (king - 2);
            }
            return targets;
        }

        /** Which is 0 for the rook of file 7, 1 for that of file 0. */
        private boolean hasRight(int which) {
            return (rights >> (2 * side + which) & 1) != 0;
        }

        private boolean isEmpty(int first, int last) {
            for (int square = first; square <= last; square++) {
                if (squares[square] != NONE) {
                    return false;
                }
            }
            return true;
        }

        /** Makes a candidate; answers what takeBack needs beside its code: the piece taken, rights, passed. */
        int play(int code) {
            int from = code & 63;
            int to = code >> 6 & 63;
            int promotion = code >> 12;
            int before = squares[to] | rights << 4 | (passed + 1) << 8;
            int kind = squares[from] - KINDS * side;
            if (kind == PAWN && from % FILES != to % FILES && squares[to] == NONE) {
                squares[besideOf(from, to)] = NONE;
            }
            squares[to] = promotion == NONE ? squares[from] : promotion + KINDS * side;
            squares[from] = NONE;
            if (kind == KING) {
                kings[side] = to;
                if (isCastling(from, to)) {
                    shift(castlingCorner(from, to), (from + to) / 2);
                }
            }
            rights &= ~(rightsTiedTo(from) | rightsTiedTo(to));
            passed = kind == PAWN && Math.abs(to - from) == 2 * FILES ? from % FILES : NO_FILE;
            side = 1 - side;
            return before;
        }

        void takeBack(int code, int before) {
            int from = code & 63;
            int to = code >> 6 & 63;
            int promotion = code >> 12;
            int taken = before & 15;
            side = 1 - side;
            rights = before >> 4 & 15;
            passed = (before >> 8) - 1;
            squares[from] = promotion == NONE ? squares[to] : PAWN + KINDS * side;
            squares[to] = taken;
            int kind = squares[from] - KINDS * side;
            if (kind == PAWN && from % FILES != to % FILES && taken == NONE) {
                squares[besideOf(from, to)] = PAWN + KINDS * (1 - side);
            }
            if (kind == KING) {
                kings[side] = from;
                if (isCastling(from, to)) {
                    shift((from + to) / 2, castlingCorner(from, to));
                }
            }
        }

        /** Where the pawn stands that goes off the board by passing. */
        private static int besideOf(int from, int to) {
            return from / FILES * FILES + to % FILES;
        }

        private static boolean isCastling(int from, int to) {
            return Math.abs(to - from) == 2;
        }

        private static int castlingCorner(int from, int to) {
            return from / FILES * FILES + (to > from ? LAST : 0);
        }

        private void shift(int from, int to) {
            squares[to] = squares[from];
            squares[from] = NONE;
        }

        private static int rightsTiedTo(int square) {
            switch (square) {
                case WHITE_KING_HOME:
                    return 3;
                case BLACK_KING_HOME:
                    return 12;
                case 7:
                    return 1;
                case 0:
                    return 2;
                case 63:
                    return 4;
                case 56:
                    return 8;
                default:
                    return 0;
            }
        }

        /** A number that is the same just when the same moves by passing are there; 0 for none. */
        int passingMoves() {
            if (passed == NO_FILE) {
                return 0;
            }
            int pawn = PAWN + KINDS * side;
            int beside = passed + FILES * (side == WHITE ? 4 : 3);
            boolean low = passed > 0 && squares[beside - 1] == pawn
                    && keepsKingSafe(codeOf(beside - 1, passingTarget(), NONE));
            boolean high = passed < LAST && squares[beside + 1] == pawn
                    && keepsKingSafe(codeOf(beside + 1, passingTarget(), NONE));
            return low || high ? 4 * passed + (low ? 1 : 0) + (high ? 2 : 0) : 0;
        }
    }

    /** Whether a game can begin from what was set. */
    private static final class Beginning {

        static boolean isAllowed(Position position, int side, int rights, int passed) {
            return isSide(side)
                    && rights >= 0 && rights <= ALL_RIGHTS
                    && passed >= NO_FILE && passed <= LAST
                    && hasFairPieces(position.squares, WHITE)
                    && hasFairPieces(position.squares, BLACK)
                    && !position.isHitBy(side, position.squareOf(KING + KINDS * (1 - side)))
                    && areRightsFair(position.squares, rights)
                    && isPassedFair(position.squares, side, passed);
        }

        /** Just one king, no more pieces than a game has, no pawn on a last rank. */
        private static boolean hasFairPieces(int[] squares, int side) {
            int pieces = 0;
            int kings = 0;
            for (int square = 0; square < SQUARES; square++) {
                int kind = squares[square] - KINDS * side;
                if (kind >= PAWN && kind <= KING) {
                    pieces++;
                }
                if (kind == KING) {
                    kings++;
                }
                if (kind == PAWN && (square / FILES == 0 || square / FILES == LAST)) {
                    return false;
                }
            }
            return kings == 1 && pieces <= MOST_PIECES;
        }

        private static boolean areRightsFair(int[] squares, int rights) {
            return ((rights & 3) == 0 || squares[WHITE_KING_HOME] == KING)
                    && ((rights & 1) == 0 || squares[7] == ROOK)
                    && ((rights & 2) == 0 || squares[0] == ROOK)
                    && ((rights & 12) == 0 || squares[BLACK_KING_HOME] == KING + KINDS)
                    && ((rights & 4) == 0 || squares[63] == ROOK + KINDS)
                    && ((rights & 8) == 0 || squares[56] == ROOK + KINDS);
        }

        private static boolean isPassedFair(int[] squares, int side, int passed) {
            if (passed == NO_FILE) {
                return true;
            }
            int pawn = passed + FILES * (side == WHITE ? 4 : 3);
            int behind = side == WHITE ? FILES : -FILES;
            return squares[pawn] == PAWN + KINDS * (1 - side)
                    && squares[pawn + behind] == NONE
                    && squares[pawn + 2 * behind] == NONE;
        }
    }

    /** The moves made from the beginning on, and the positions that were there, the one of now last. */
    private static final class History {
        private static final int POSITIONS = MOST_MADE + 1;
        /** A square takes four bits, so sixteen of them fill a long. */
        private static final int WORDS = 4;
        private static final int SQUARES_IN_WORD = 16;

        private final long[] boards = new long[WORDS * POSITIONS];
        /** What beside the squares makes two positions the same. */
        private final int[] marks = new int[POSITIONS];
        private final int[] quiets = new int[POSITIONS];
        private final int[] codes = new int[MOST_MADE];
        private final int[] befores = new int[MOST_MADE];
        int made;

        void start() {
            made = 0;
            quiets[0] = 0;
        }

        void makeMove(Position position, int code) {
            boolean ofPawn = position.squares[code & 63] == PAWN + KINDS * position.side;
            int before = position.play(code);
            boolean takes = (before & 15) != NONE;
            codes[made] = code;
            befores[made] = before;
            quiets[made + 1] = ofPawn || takes ? 0 : quiets[made] + 1;
            made++;
        }

        void takeMoveBack(Position position) {
            made--;
            position.takeBack(codes[made], befores[made]);
        }

        int quietNow() {
            return quiets[made];
        }

        int countSame() {
            int count = 0;
            for (int k = 0; k <= made; k++) {
                if (isSameAsNow(k)) {
                    count++;
                }
            }
            return count;
        }

        private boolean isSameAsNow(int k) {
            boolean same = marks[k] == marks[made];
            for (int word = 0; word < WORDS && same; word++) {
                same = boards[WORDS * k + word] == boards[WORDS * made + word];
            }
            return same;
        }

        /** Keeps the position of now; the number for its moves by passing is below 32. */
        void notePosition(Position position, int passingMoves) {
            marks[made] = passingMoves | position.side << 5 | position.rights << 6;
            for (int word = 0; word < WORDS; word++) {
                boards[WORDS * made + word] = wordOf(position.squares, SQUARES_IN_WORD * word);
            }
        }

        private static long wordOf(int[] squares, int first) {
            long word = 0;
            for (int square = first; square < first + SQUARES_IN_WORD; square++) {
                word = word << 4 | squares[square];
            }
            return word;
        }
    }

    /** Looks for forced mate by trying; a row for each depth, so that no search makes one. */
    private static final class MateSearch {
        private final MoveRow[] rows = {new MoveRow(), new MoveRow(), new MoveRow(), new MoveRow()};

        /** Whether the side to move can have mate making at most n moves. */
        private boolean forcesMate(Position position, int n, int depth) {
            if (n <= 0 || depth >= rows.length) {
                return false;
            }
            MoveRow own = rows[depth];
            position.listCandidates(own);
            int mover = position.side;
            for (int k = 0; k < own.count; k++) {
                int before = position.play(own.codes[k]);
                // A last move that gives no check is the common case, and the cheapest to pass over.
                boolean mates = (n > 1 || position.isInCheck(1 - mover))
                        && !position.isInCheck(mover)
                        && isLost(position, n - 1, depth + 1);
                position.takeBack(own.codes[k], before);
                if (mates) {
                    return true;
                }
            }
            return false;
        }

        /** Whether the side to move is mated, now or by at most n moves of the other side. */
        private boolean isLost(Position position, int n, int depth) {
            if (depth >= rows.length) {
                return false;
            }
            MoveRow replies = rows[depth];
            position.listCandidates(replies);
            int mover = position.side;
            boolean hasMove = false;
            for (int k = 0; k < replies.count; k++) {
                int before = position.play(replies.codes[k]);
                boolean fair = !position.isInCheck(mover);
                boolean escapes = fair && !forcesMate(position, n, depth + 1);
                position.takeBack(replies.codes[k], before);
                if (escapes) {
                    return false;
                }
                hasMove = hasMove || fair;
            }
            return hasMove || position.isInCheck(mover);
        }
    }
}
