/** The notes' limit, as promises 5, 6, 13 and 14 keep to it, within an object's 512 calls. */
public final class NotesTest {
    private static final Check check = new Check();
    private static final int TOWNS = 6;

    public static void main(String[] args) {
        putIsRefused();
        staysIsRefused();
        goneIsRefused();
        settleIsRefused();
        check.end();
    }

    private static void putIsRefused() {
        TourRooms x = new TourRooms();
        x.person(true, 0, false, 0, 0, 5);
        x.town(1);
        x.room(0, 1, false, 10);
        for (int k = 0; k < 500; k++) {
            check.due("put " + k, x.put(0, 0, k % 2 == 0 ? 0 : -1), true);
        }
        check.due("notes", x.count(10), 500);
        check.due("one more", x.put(0, 0, 0), false);
        check.due("nothing happened", x.roomOf(0, 0, 4), 0);
        check.due("no change needs none", x.put(0, 0, -1), true);
        check.due("settle needs one", x.settle(0, 0), -1);
        check.due("gone needs none", x.gone(0), true);
    }

    private static TourRooms withNotes(int wanted) {
        TourRooms x = Desk.noted(wanted);
        check.due("notes", x.count(10), wanted);
        return x;
    }

    private static void staysIsRefused() {
        TourRooms x = withNotes(498);
        check.due("three notes", x.stays(1, 0, 2), false);
        check.due("from as it was", x.personOf(1, 4), 0);
        check.due("to as it was", x.personOf(1, 5), 5);
        for (int town = 0; town < TOWNS; town++) {
            check.due("still in " + town, x.listed(town, 1, 0) == -1, false);
        }
        check.due("two notes", x.stays(1, 1, 4), true);
        check.due("notes", x.count(10), 500);
        check.due("no note", x.stays(1, 0, 5), true);
        check.due("a note", x.stays(1, 2, 5), false);
        check.due("notes then", x.count(10), 500);
    }

    private static void goneIsRefused() {
        TourRooms x = withNotes(495);
        x.friends(1, 2, true);
        check.due("six notes", x.gone(1), false);
        check.due("not gone", x.personOf(1, 6), 0);
        check.due("still a friend", x.personOf(2, 7), 1);
        check.due("still there", x.listed(0, 1, 0) == -1, false);
        check.due("five notes", x.gone(8), true);
        check.due("gone", x.personOf(8, 6), 1);
        check.due("notes", x.count(10), 500);
    }

    private static void settleIsRefused() {
        TourRooms x = withNotes(499);
        // town 0: somebody must move, and 1 moved alone is one note
        int moved = x.moved();
        int room = x.listed(5, 8, 0);
        check.due("person 8 has none there", room, -1);
        check.due("it needs one", x.settle(5, 0), 50);
        check.due("notes", x.count(10), 500);
        check.due("nobody moved", x.moved(), 0);
        x.person(true, 0, false, 0, 0, 5);
        int before = x.roomOf(0, 0, 4);
        check.due("one note too many", x.settle(0, 0), -1);
        check.due("nothing happened", x.roomOf(0, 0, 4), before);
        check.due("moved as before", x.moved(), moved);
        x.gone(9);
        check.due("no note", x.settle(0, 1), 50);
    }
}
