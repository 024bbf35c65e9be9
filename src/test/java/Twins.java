/** Two boards made alike: one is asked for what is refused, and must not differ from the other afterwards. */
final class Twins {
    interface Maker {
        RuledBoard make();
    }

    interface Asked {
        long answer(RuledBoard board);
    }

    private Twins() {
    }

    static void state(Checks checks, String what, Maker maker, Asked asked) {
        RuledBoard board = maker.make();
        checks.state(what, () -> asked.answer(board));
        unchanged(checks, what, board, maker.make());
    }

    static void argument(Checks checks, String what, Maker maker, Asked asked) {
        RuledBoard board = maker.make();
        checks.argument(what, () -> asked.answer(board));
        unchanged(checks, what, board, maker.make());
    }

    private static void unchanged(Checks checks, String what, RuledBoard board, RuledBoard twin) {
        boolean setting = twin.side() < 0;
        checks.dueText(what + " changed nothing", setting ? goOnSetting(board) : goOnPlaying(board),
                setting ? goOnSetting(twin) : goOnPlaying(twin));
    }

    /** What can be seen, and what comes to light by a move taken back and another made. */
    private static String goOnPlaying(RuledBoard board) {
        StringBuilder text = new StringBuilder();
        text.append(lookAtAll(board)).append('\n');
        text.append(Checks.told(() -> board.put(0, 0))).append('\n');
        text.append(Checks.told(() -> board.undo())).append('\n');
        text.append(lookAtAll(board)).append('\n');
        text.append(Checks.told(() -> makeFirst(board))).append('\n');
        return text.append(lookAtAll(board)).toString();
    }

    /** What can be seen, and what comes to light when a game begins from it. */
    private static String goOnSetting(RuledBoard board) {
        StringBuilder text = new StringBuilder();
        text.append(lookAtAll(board)).append('\n');
        text.append(Checks.told(() -> board.undo())).append('\n');
        text.append(Checks.told(() -> board.begin(0, 15, -1))).append('\n');
        text.append(Checks.told(() -> board.begin(0, 0, -1))).append('\n');
        text.append(Checks.told(() -> board.begin(1, 0, -1))).append('\n');
        return text.append(lookAtAll(board)).toString();
    }

    private static int makeFirst(RuledBoard board) {
        int code = board.nth(0);
        return board.move(code & 63, code >> 6 & 63, code >> 12);
    }

    private static String lookAtAll(RuledBoard board) {
        String moves = board.side() < 0 ? "" : Boards.moves(board);
        return Boards.look(board) + " " + Checks.told(() -> board.ending()) + " " + moves;
    }
}
