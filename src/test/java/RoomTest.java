import java.lang.reflect.Array;
import java.lang.reflect.Field;
import java.lang.reflect.Modifier;
import java.util.IdentityHashMap;

/** How much an object holds: all rows are made with it, and no run of calls makes it hold more. */
public final class RoomTest {
    private static final Checks CHECKS = new Checks();
    private static final int CALLS = 512;

    private final IdentityHashMap<Object, Boolean> met = new IdentityHashMap<>();
    private int cells;

    public static void main(String[] args) throws IllegalAccessException {
        RuledBoard board = new RuledBoard();
        String first = told(board);
        RoomTest room = new RoomTest();
        room.count(board);
        CHECKS.due("at most 30 objects and arrays: " + first, room.met.size() <= 30, true);
        CHECKS.due("at most 4000 fields and elements: " + first, room.cells <= 4000, true);
        playLong(board);
        CHECKS.dueText("after 150 moves", told(board), first);
        board.clear();
        board.put(4, 6);
        board.put(60, 12);
        board.begin(0, 0, -1);
        CHECKS.dueText("after another beginning", told(board), first);
        CHECKS.finish();
    }

    /** Knights go out and home, and every call is asked in between. */
    private static void playLong(RuledBoard board) {
        String[] moves = {"g1f3", "g8f6", "f3g1", "f6g8"};
        for (int n = 0; n < 150; n++) {
            Boards.move(board, moves[n % 4]);
        }
        int asked = 150;
        while (asked < CALLS - 20) {
            board.moves();
            board.nth(0);
            board.ending();
            board.seen();
            board.mate(2);
            asked += 5;
        }
        CHECKS.state("move 151", () -> Boards.move(board, "g8f6"));
        CHECKS.argument("mate(3)", () -> board.mate(3));
    }

    private static String told(RuledBoard board) throws IllegalAccessException {
        RoomTest room = new RoomTest();
        room.count(board);
        return room.met.size() + " objects and arrays, " + room.cells + " fields and elements";
    }

    private void count(Object object) throws IllegalAccessException {
        if (object == null || met.put(object, true) != null) {
            return;
        }
        if (object.getClass().isArray()) {
            cells += Array.getLength(object);
            for (int k = 0; k < Array.getLength(object) && object instanceof Object[]; k++) {
                count(Array.get(object, k));
            }
            return;
        }
        for (Field field : object.getClass().getDeclaredFields()) {
            if (!Modifier.isStatic(field.getModifiers())) {
                cells++;
                field.setAccessible(true);
                if (!field.getType().isPrimitive()) {
                    count(field.get(object));
                }
            }
        }
    }
}
