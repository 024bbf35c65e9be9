import java.util.ArrayList;
import java.util.List;

/**
 * The document's words again in the slowest and plainest form, to be compared with: every move is found by
 * trying all squares, every position is kept whole, nothing is taken back but by going to the one before.
 */
final class PlainRules {
    static final class Place {
        final int[] on;
        int side;
        int rights;
        int passed;
        int quiet;

        Place(int[] on, int side, int rights, int passed, int quiet) {
            this.on = on.clone();
            this.side = side;
            this.rights = rights;
            this.passed = passed;
            this.quiet = quiet;
        }
    }

    private static final int[] HOME = {4, 2, 3, 5, 6, 3, 2, 4};

    /** The positions from the beginning on; none while the board is set. */
    private final List<Place> places = new ArrayList<>();
    private final int[] setting = new int[64];

    PlainRules() {
        int[] on = new int[64];
        for (int file = 0; file < 8; file++) {
            on[file] = HOME[file];
            on[8 + file] = 1;
            on[48 + file] = 7;
            on[56 + file] = HOME[file] + 6;
        }
        places.add(new Place(on, 0, 15, -1, 0));
    }

    private boolean isSet() {
        return places.isEmpty();
    }

    private Place now() {
        if (isSet()) {
            throw new IllegalStateException();
        }
        return places.get(places.size() - 1);
    }

    private static void argument(boolean fair) {
        if (!fair) {
            throw new IllegalArgumentException();
        }
    }

    long clear() {
        places.clear();
        java.util.Arrays.fill(setting, 0);
        return 0;
    }

    long put(int square, int piece) {
        if (!isSet()) {
            throw new IllegalStateException();
        }
        argument(square >= 0 && square < 64 && piece >= 0 && piece <= 12);
        int stood = setting[square];
        setting[square] = piece;
        return stood;
    }

    long begin(int side, int rights, int passed) {
        if (!isSet()) {
            throw new IllegalStateException();
        }
        argument(side == 0 || side == 1);
        argument(rights >= 0 && rights <= 15 && passed >= -1 && passed <= 7);
        int[] count = new int[13];
        for (int square = 0; square < 64; square++) {
            int piece = setting[square];
            count[piece]++;
            argument(piece != 1 && piece != 7 || square >= 8 && square < 56);
        }
        argument(count[6] == 1 && count[12] == 1);
        argument(count[1] + count[2] + count[3] + count[4] + count[5] + count[6] <= 16);
        argument(count[7] + count[8] + count[9] + count[10] + count[11] + count[12] <= 16);
        argument(!inCheck(setting, 1 - side));
        for (int bit = 0; bit < 4; bit++) {
            if ((rights & 1 << bit) != 0) {
                int rank = bit < 2 ? 0 : 7;
                int add = bit < 2 ? 0 : 6;
                argument(setting[8 * rank + 4] == 6 + add);
                argument(setting[8 * rank + (bit % 2 == 0 ? 7 : 0)] == 4 + add);
            }
        }
        if (passed >= 0) {
            argument(setting[side == 0 ? 32 + passed : 24 + passed] == (side == 0 ? 7 : 1));
            argument(setting[side == 0 ? 40 + passed : 16 + passed] == 0);
            argument(setting[side == 0 ? 48 + passed : 8 + passed] == 0);
        }
        places.add(new Place(setting, side, rights, passed, 0));
        return moves();
    }

    long move(int from, int to, int promotion) {
        Place place = now();
        if (places.size() == 151) {
            throw new IllegalStateException();
        }
        argument(isMove(place, from, to, promotion));
        places.add(after(place, from, to, promotion));
        return places.size() - 1;
    }

    long undo() {
        now();
        if (places.size() == 1) {
            throw new IllegalStateException();
        }
        places.remove(places.size() - 1);
        return places.size() - 1;
    }

    long made() {
        return isSet() ? 0 : places.size() - 1;
    }

    long at(int square) {
        return square < 0 || square > 63 ? 0 : isSet() ? setting[square] : now().on[square];
    }

    long side() {
        return isSet() ? -1 : now().side;
    }

    long rights() {
        return isSet() ? 0 : now().rights;
    }

    long passed() {
        return isSet() ? -1 : now().passed;
    }

    long moves() {
        return all(now()).size();
    }

    long nth(int k) {
        List<Integer> moves = all(now());
        argument(k >= 0 && k < moves.size());
        return moves.get(k);
    }

    long check() {
        return inCheck(now().on, now().side) ? 1 : 0;
    }

    long ending() {
        return moves() > 0 ? 0 : check() == 1 ? 1 : 2;
    }

    long quiet() {
        return now().quiet;
    }

    long seen() {
        String now = told(now());
        int count = 0;
        for (Place place : places) {
            count += told(place).equals(now) ? 1 : 0;
        }
        return count;
    }

    long hits(int side, int square) {
        argument((side == 0 || side == 1) && square >= 0 && square < 64);
        return hit(isSet() ? setting : now().on, side, square) ? 1 : 0;
    }

    long mate(int most) {
        Place place = now();
        argument(most >= 0 && most <= 2);
        for (int n = 1; n <= most; n++) {
            if (forced(place, n)) {
                return n;
            }
        }
        return 0;
    }

    private static boolean forced(Place place, int n) {
        for (int code : all(place)) {
            Place other = after(place, code & 63, code >> 6 & 63, code >> 12);
            if (n > 1 || inCheck(other.on, other.side)) {
                List<Integer> replies = all(other);
                boolean all = n > 1 && !replies.isEmpty() || replies.isEmpty() && inCheck(other.on, other.side);
                for (int k = 0; k < replies.size() && all; k++) {
                    int reply = replies.get(k);
                    all = n > 1 && forced(after(other, reply & 63, reply >> 6 & 63, reply >> 12), n - 1);
                }
                if (all) {
                    return true;
                }
            }
        }
        return false;
    }

    private static String told(Place place) {
        StringBuilder text = new StringBuilder();
        for (int piece : place.on) {
            text.append((char) ('a' + piece));
        }
        text.append(place.side).append(' ').append(place.rights);
        for (int code : all(place)) {
            if (isPassing(place, code & 63, code >> 6 & 63)) {
                text.append(' ').append(code);
            }
        }
        return text.toString();
    }

    static List<Integer> all(Place place) {
        List<Integer> found = new ArrayList<>();
        for (int from = 0; from < 64; from++) {
            if (sideOf(place.on[from]) == place.side) {
                for (int to = 0; to < 64; to++) {
                    for (int promotion = 0; promotion <= 5; promotion++) {
                        if (isMove(place, from, to, promotion)) {
                            found.add(from + 64 * to + 4096 * promotion);
                        }
                    }
                }
            }
        }
        return found;
    }

    static int sideOf(int piece) {
        return piece == 0 ? -1 : piece <= 6 ? 0 : 1;
    }

    static boolean isMove(Place place, int from, int to, int promotion) {
        if (from < 0 || from > 63 || to < 0 || to > 63 || from == to) {
            return false;
        }
        int piece = place.on[from];
        if (sideOf(piece) != place.side || sideOf(place.on[to]) == place.side) {
            return false;
        }
        boolean promoted = piece % 6 == 1 && (to / 8 == 0 || to / 8 == 7);
        if (promoted ? promotion < 2 || promotion > 5 : promotion != 0) {
            return false;
        }
        boolean goes = piece % 6 == 1
                ? goesAsPawn(place, from, to) || isPassing(place, from, to)
                : reaches(place.on, from, to) || isCastling(place, from, to);
        return goes && !inCheck(after(place, from, to, promotion).on, place.side);
    }

    private static boolean goesAsPawn(Place place, int from, int to) {
        int ahead = place.side == 0 ? 8 : -8;
        if (place.on[to] != 0) {
            return reaches(place.on, from, to);
        }
        return to == from + ahead
                || to == from + 2 * ahead && from / 8 == (place.side == 0 ? 1 : 6) && place.on[from + ahead] == 0;
    }

    static boolean isPassing(Place place, int from, int to) {
        int rank = place.side == 0 ? 4 : 3;
        return place.on[from] == (place.side == 0 ? 1 : 7) && place.passed >= 0 && from / 8 == rank
                && Math.abs(from % 8 - place.passed) == 1 && to % 8 == place.passed
                && to / 8 == (place.side == 0 ? 5 : 2);
    }

    static boolean isCastling(Place place, int from, int to) {
        if (place.on[from] % 6 != 0 || place.on[from] == 0 || from % 8 != 4 || from / 8 != to / 8
                || Math.abs(to - from) != 2) {
            return false;
        }
        int right = (to > from ? 1 : 2) * (place.side == 0 ? 1 : 4);
        if ((place.rights & right) == 0) {
            return false;
        }
        int rook = to > from ? from + 3 : from - 4;
        return openBetween(place.on, from, rook) && !inCheck(place.on, place.side)
                && !hit(place.on, 1 - place.side, (from + to) / 2);
    }

    static Place after(Place place, int from, int to, int promotion) {
        Place next = new Place(place.on, 1 - place.side, place.rights, -1, place.quiet + 1);
        int piece = place.on[from];
        if (piece % 6 == 1 || place.on[to] != 0) {
            next.quiet = 0;
        }
        next.on[from] = 0;
        next.on[to] = promotion == 0 ? piece : promotion + 6 * place.side;
        if (isPassing(place, from, to)) {
            next.on[from / 8 * 8 + to % 8] = 0;
        }
        if (isCastling(place, from, to)) {
            next.on[(from + to) / 2] = next.on[to > from ? from + 3 : from - 4];
            next.on[to > from ? from + 3 : from - 4] = 0;
        }
        if (piece % 6 == 1 && Math.abs(to - from) == 16) {
            next.passed = from % 8;
        }
        if (next.on[4] != 6) {
            next.rights &= 12;
        }
        if (next.on[60] != 12) {
            next.rights &= 3;
        }
        int[] corners = {7, 0, 63, 56};
        for (int bit = 0; bit < 4; bit++) {
            if (from == corners[bit] || to == corners[bit]) {
                next.rights &= ~(1 << bit);
            }
        }
        return next;
    }

    static boolean inCheck(int[] on, int side) {
        for (int square = 0; square < 64; square++) {
            if (on[square] == 6 + 6 * side) {
                return hit(on, 1 - side, square);
            }
        }
        return false;
    }

    static boolean hit(int[] on, int side, int square) {
        for (int from = 0; from < 64; from++) {
            if (sideOf(on[from]) == side && reaches(on, from, square)) {
                return true;
            }
        }
        return false;
    }

    /** Whether the piece on a square hits another square. */
    static boolean reaches(int[] on, int from, int to) {
        int files = Math.abs(to % 8 - from % 8);
        int ranks = Math.abs(to / 8 - from / 8);
        boolean straight = files == 0 ^ ranks == 0;
        boolean slanting = files == ranks && files > 0;
        switch (on[from] % 6) {
            case 1:
                return files == 1 && to / 8 - from / 8 == (on[from] == 1 ? 1 : -1);
            case 2:
                return files * ranks == 2;
            case 3:
                return slanting && openBetween(on, from, to);
            case 4:
                return straight && openBetween(on, from, to);
            case 5:
                return (straight || slanting) && openBetween(on, from, to);
            default:
                return on[from] != 0 && Math.max(files, ranks) == 1;
        }
    }

    private static boolean openBetween(int[] on, int from, int to) {
        int file = Integer.compare(to % 8, from % 8);
        int rank = Integer.compare(to / 8, from / 8);
        for (int square = from + 8 * rank + file; square != to; square += 8 * rank + file) {
            if (on[square] != 0) {
                return false;
            }
        }
        return true;
    }
}
