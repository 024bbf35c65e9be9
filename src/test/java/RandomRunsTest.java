/** Runs of calls made up by a fixed rule, each answer compared with that of PlainRules. */
public final class RandomRunsTest {
    private static final Checks CHECKS = new Checks();
    private static final int CALLS = 512;

    private static final String[] SETTINGS = {
        "r3k2r/8/8/8/8/8/8/R3K2R w KQkq -",
        "r3k2r/p1ppqpb1/bn2pnp1/3PN3/1p2P3/2N2Q1p/PPPBBPPP/R3K2R w KQkq -",
        "4k3/1p1p1p1p/8/P1P1P1P1/p1p1p1p1/8/1P1P1P1P/4K3 w - -",
        "8/2p5/3p4/KP5r/1R3p1k/8/4P1P1/8 w - -",
        "1n2k1n1/P1P3P1/8/8/8/8/p1p3p1/1N2K1N1 b - -",
        "8/8/8/8/8/1k6/7r/K7 b - -",
        "3k4/8/3K4/8/8/8/8/7R w - -",
        "r3k2r/pp4pp/8/1Q6/2q5/8/PP4PP/R3K2R b KQkq -",
    };

    private long seed;
    private RuledBoard board;
    private PlainRules plain;
    private int calls;
    /** The file of the latest pawn that was put so that it may be passed. */
    private int lastPassed;
    /** The latest move of each side, to be made backwards so that positions come again. */
    private final int[] latest = new int[2];
    private boolean shuffling;

    private RandomRunsTest(long seed) {
        this.seed = seed;
    }

    public static void main(String[] args) {
        for (int n = 0; n < 60; n++) {
            new RandomRunsTest(n).playOn(n % 3 == 0 ? "" : SETTINGS[n % SETTINGS.length]);
        }
        for (int n = 0; n < 400; n++) {
            new RandomRunsTest(1000 + n).setSomething();
        }
        CHECKS.finish();
    }

    /** A number from 0 up to one below the bound. */
    private int next(int bound) {
        seed = seed * 6364136223846793005L + 1442695040888963407L;
        return (int) ((seed >>> 33) % bound);
    }

    private void compare(String call, Checks.Call got, Checks.Call want) {
        calls++;
        CHECKS.dueText("call " + calls + " " + call, Checks.told(got), Checks.told(want));
    }

    private void start() {
        board = new RuledBoard();
        plain = new PlainRules();
        calls = 0;
    }

    private void playOn(String told) {
        start();
        shuffling = next(2) == 0;
        if (!told.isEmpty()) {
            set(told);
        }
        while (calls < CALLS - 40) {
            step();
            lookAround();
        }
    }

    private void set(String told) {
        String[] part = told.split(" ");
        RuledBoard like = Boards.of(told);
        clear();
        for (int square = 0; square < 64; square++) {
            if (like.at(square) != 0) {
                put(square, like.at(square));
            }
        }
        begin(part[1].equals("w") ? 0 : 1, like.rights(), like.passed());
    }

    /** Mostly a move that there is, now and then one taken back, one made backwards or one that may not be. */
    private void step() {
        int kind = next(shuffling ? 20 : 12);
        int count = Integer.parseInt(Checks.told(() -> plain.moves()));
        if (kind == 0 || count == 0) {
            compare("undo", () -> board.undo(), () -> plain.undo());
        } else if (kind >= 12) {
            int code = latest[(int) plain.side()];
            move(code >> 6 & 63, code & 63, 0);
        } else if (kind == 1) {
            move(next(66) - 1, next(66) - 1, next(4) == 0 ? next(8) - 1 : 0);
        } else {
            int code = (int) plain.nth(next(count));
            for (int tries = 0; tries < 3 && plain.at(code >> 6 & 63) == 0 && next(2) == 0; tries++) {
                code = (int) plain.nth(next(count));
            }
            latest[(int) plain.side()] = code;
            move(code & 63, code >> 6 & 63, code >> 12);
        }
    }

    private void lookAround() {
        compare("moves", () -> board.moves(), () -> plain.moves());
        compare("passed", () -> board.passed(), () -> plain.passed());
        compare("rights", () -> board.rights(), () -> plain.rights());
        compare("seen", () -> board.seen(), () -> plain.seen());
        compare("quiet", () -> board.quiet(), () -> plain.quiet());
        compare("ending", () -> board.ending(), () -> plain.ending());
        int k = next(50) - 1;
        compare("nth " + k, () -> board.nth(k), () -> plain.nth(k));
        int square = next(66) - 1;
        compare("at " + square, () -> board.at(square), () -> plain.at(square));
        int side = next(10) == 0 ? next(4) - 1 : next(2);
        compare("hits " + side + " " + square, () -> board.hits(side, square) ? 1 : 0,
                () -> plain.hits(side, square));
        compare("check", () -> board.check() ? 1 : 0, () -> plain.check());
        if (next(6) == 0) {
            int most = next(10) == 0 ? next(5) - 1 : 1 + next(2);
            compare("mate " + most, () -> board.mate(most), () -> plain.mate(most));
        }
    }

    /** Few pieces close together, rights and a passed file that are often refused; then a few moves. */
    private void setSomething() {
        start();
        for (int round = 0; round < 8 && calls < CALLS - 120; round++) {
            clear();
            int side = next(2);
            putKings();
            int pieces = next(round == 7 ? 34 : 9);
            boolean hunt = next(2) == 0;
            for (int n = 0; n < pieces; n++) {
                put(next(64), hunt ? pieceForHunt(side) : 1 + next(12));
            }
            if (next(2) == 0) {
                putPassed(side);
            }
            lookAtSetting();
            boolean begun = begin(side, next(2) == 0 ? 0 : next(17), next(2) == 0 ? -1 : next(10) - 2);
            begun = begun || begin(side, next(2) == 0 ? next(4) : 0, next(2) == 0 ? -1 : next(8));
            begun = begun || begin(1 - side, 0, -1) || begin(side, 0, -1);
            if (begun) {
                allMovesAndMate();
                for (int n = 0; n < 3 && calls < CALLS - 40; n++) {
                    step();
                    lookAround();
                }
            }
        }
    }

    /** No king, and mostly of one side, so that mate is often near. */
    private int pieceForHunt(int side) {
        return 1 + next(5) + 6 * (next(4) == 0 ? 1 - side : side);
    }

    private void putKings() {
        boolean home = next(2) == 0;
        put(home ? 4 : next(64), 6);
        put(home && next(2) == 0 ? 60 : next(64), 12);
        if (home) {
            put(next(2) == 0 ? 0 : 7, 4);
            put(next(2) == 0 ? 56 : 63, 10);
        }
    }

    private void putPassed(int side) {
        int file = next(8);
        int rank = side == 0 ? 4 : 3;
        put(8 * rank + file, side == 0 ? 7 : 1);
        put(8 * rank + Math.max(0, file - 1), side == 0 ? 1 : 7);
        put(8 * rank + Math.min(7, file + 1), side == 0 ? 1 : 7);
        lastPassed = file;
    }

    private void lookAtSetting() {
        int square = next(66) - 1;
        compare("at " + square, () -> board.at(square), () -> plain.at(square));
        compare("hits 0 " + square, () -> board.hits(0, square) ? 1 : 0, () -> plain.hits(0, square));
        compare("hits 1 " + square, () -> board.hits(1, square) ? 1 : 0, () -> plain.hits(1, square));
        compare("side", () -> board.side(), () -> plain.side());
        compare("moves", () -> board.moves(), () -> plain.moves());
    }

    private void allMovesAndMate() {
        int count = (int) plain.moves();
        for (int k = 0; k <= count && calls < CALLS - 60; k++) {
            int nth = k;
            compare("nth " + k, () -> board.nth(nth), () -> plain.nth(nth));
        }
        compare("mate 2", () -> board.mate(2), () -> plain.mate(2));
    }

    private void clear() {
        calls++;
        board.clear();
        plain.clear();
    }

    private void put(int square, int piece) {
        compare("put " + square + " " + piece, () -> board.put(square, piece), () -> plain.put(square, piece));
    }

    private boolean begin(int side, int rights, int passed) {
        int file = passed == -1 ? -1 : next(2) == 0 ? lastPassed : passed;
        compare("begin " + side + " " + rights + " " + file, () -> board.begin(side, rights, file),
                () -> plain.begin(side, rights, file));
        return plain.side() >= 0;
    }

    private void move(int from, int to, int promotion) {
        compare("move " + from + " " + to + " " + promotion, () -> board.move(from, to, promotion),
                () -> plain.move(from, to, promotion));
    }
}
