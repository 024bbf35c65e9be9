/** Short ways to set up a board and to tell its moves, for the tests. */
final class Boards {
    private static final String LETTERS = " PNBRQKpnbrqk";

    static final String START = "rnbqkbnr/pppppppp/8/8/8/8/PPPPPPPP/RNBQKBNR w KQkq -";

    private Boards() {
    }

    /** Clears the board and puts the pieces of a text like "8/8/4k3/8/8/8/8/4K2R". */
    static RuledBoard set(String placing) {
        RuledBoard board = new RuledBoard();
        board.clear();
        put(board, placing);
        return board;
    }

    static void put(RuledBoard board, String placing) {
        int rank = 7;
        int file = 0;
        for (char c : placing.toCharArray()) {
            if (c == '/') {
                rank--;
                file = 0;
            } else if (c >= '1' && c <= '8') {
                file += c - '0';
            } else {
                board.put(8 * rank + file, LETTERS.indexOf(c));
                file++;
            }
        }
    }

    /** A board in play from a text like "8/8/4k3/8/8/8/8/4K2R w K -". */
    static RuledBoard of(String told) {
        String[] part = told.split(" ");
        RuledBoard board = set(part[0]);
        int rights = 0;
        for (char c : part[2].toCharArray()) {
            rights |= c == '-' ? 0 : 1 << "KQkq".indexOf(c);
        }
        int passed = part[3].equals("-") ? -1 : part[3].charAt(0) - 'a';
        board.begin(part[1].equals("w") ? 0 : 1, rights, passed);
        return board;
    }

    static int square(String name) {
        return 8 * (name.charAt(1) - '1') + name.charAt(0) - 'a';
    }

    /** Makes a move like "e2e4" or "a7a8q". */
    static int move(RuledBoard board, String told) {
        int promotion = told.length() == 5 ? " pnbrq".indexOf(told.charAt(4)) : 0;
        return board.move(square(told.substring(0, 2)), square(told.substring(2, 4)), promotion);
    }

    static void play(RuledBoard board, String moves) {
        for (String told : moves.split(" ")) {
            move(board, told);
        }
    }

    static int code(String told) {
        int promotion = told.length() == 5 ? " pnbrq".indexOf(told.charAt(4)) : 0;
        return square(told.substring(0, 2)) + 64 * square(told.substring(2, 4)) + 4096 * promotion;
    }

    /** All moves that there are, in the order of nth. */
    static String moves(RuledBoard board) {
        StringBuilder text = new StringBuilder();
        int count = board.moves();
        for (int k = 0; k < count; k++) {
            int code = board.nth(k);
            text.append(k == 0 ? "" : " ").append(name(code & 63)).append(name(code >> 6 & 63));
            text.append(code >> 12 == 0 ? "" : String.valueOf(" pnbrq".charAt(code >> 12)));
        }
        return text.toString();
    }

    /** The moves of one piece alone. */
    static String movesOf(RuledBoard board, String from) {
        StringBuilder text = new StringBuilder();
        for (String told : moves(board).split(" ")) {
            if (told.startsWith(from)) {
                text.append(text.length() == 0 ? "" : " ").append(told);
            }
        }
        return text.toString();
    }

    static String name(int square) {
        return "" + (char) ('a' + square % 8) + (char) ('1' + square / 8);
    }

    /** All that can be seen of a board, as a text, to tell whether something changed. */
    static String look(RuledBoard board) {
        StringBuilder text = new StringBuilder();
        for (int square = 0; square < 64; square++) {
            text.append(LETTERS.charAt(board.at(square)));
        }
        text.append(' ').append(board.made()).append(' ').append(board.side());
        text.append(' ').append(board.rights()).append(' ').append(board.passed());
        text.append(' ').append(Checks.told(() -> board.moves()));
        text.append(' ').append(Checks.told(() -> board.check() ? 1 : 0));
        text.append(' ').append(Checks.told(() -> board.quiet()));
        text.append(' ').append(Checks.told(() -> board.seen()));
        return text.toString();
    }
}
