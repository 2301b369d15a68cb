/** Promises 36 to 39: townOf, roomOf, personOf, count. */
public final class TellTest {
    private static final Check check = new Check();

    public static void main(String[] args) {
        TourRooms x = new TourRooms();
        x.person(true, 2, false, 1, 0, 3);
        x.person(true, 2, false, 1, 1, 5);
        x.person(false, 1, true, 3, 0, 1);
        x.town(2);
        x.town(3);
        x.room(1, 2, true, 80);
        x.room(1, 2, false, 60);
        x.room(1, 1, false, 45);
        x.put(1, 2, 0);
        x.put(1, 0, 1);
        x.put(1, 1, 1);
        Check.read(x, 1, "fee 10; back 20; free 1 when people=3;");
        x.give(1, 2);
        x.friends(0, 1, true);
        tells("townOf 1", new int[] {3, 2, 3, 2, 2, 3, 140, 0, 3}, what -> x.townOf(1, what));
        tells("townOf 0", new int[] {2, 0, 0, 0, 0, 0, 0, 0, 0}, what -> x.townOf(0, what));
        tells("townOf 2", new int[0], what -> x.townOf(2, what));
        tells("townOf -1", new int[0], what -> x.townOf(-1, what));
        tells("roomOf 1 0", new int[] {2, 1, 80, 1, 4}, what -> x.roomOf(1, 0, what));
        tells("roomOf 1 1", new int[] {2, 0, 60, 1, 3}, what -> x.roomOf(1, 1, what));
        tells("roomOf 1 2", new int[] {1, 0, 45, 0, 0}, what -> x.roomOf(1, 2, what));
        tells("roomOf 1 3", new int[0], what -> x.roomOf(1, 3, what));
        tells("roomOf 1 -1", new int[0], what -> x.roomOf(1, -1, what));
        tells("roomOf 0 0", new int[0], what -> x.roomOf(0, 0, what));
        tells("roomOf 2 0", new int[0], what -> x.roomOf(2, 0, what));
        tells("personOf 0", new int[] {1, 2, 0, 1, 0, 3, 0, 1, 1}, what -> x.personOf(0, what));
        tells("personOf 2", new int[] {0, 1, 1, 3, 0, 1, 0, -1, 0}, what -> x.personOf(2, what));
        tells("personOf 3", new int[0], what -> x.personOf(3, what));
        tells("personOf -1", new int[0], what -> x.personOf(-1, what));
        x.season(2);
        x.day(7);
        x.start(5);
        x.feed(1, 2, 3);
        x.sight(0, 10, 5);
        tells("count", new int[] {7, 5, 2, 3, 2, 5, 0, 14, 3, 1, 3}, x::count);
        x.gone(0);
        x.gone(2);
        x.night();
        x.night();
        tells("townOf 0, over", new int[] {2, 0, 0, 0, 0, 0, 0, 1, 0}, what -> x.townOf(0, what));
        tells("count then", new int[] {7, 5, 2, 3, 2, 5, 2, 14, 3, 1, 5}, x::count);
        tells("personOf 0, gone", new int[] {1, 2, 0, 1, 0, 3, 1, -1, 1}, what -> x.personOf(0, what));
        tells("personOf 1", new int[] {1, 2, 0, 1, 1, 5, 0, -1, 0}, what -> x.personOf(1, what));
        check.end();
    }

    private static void tells(String name, int[] due, java.util.function.IntUnaryOperator call) {
        for (int what = -2; what < 14; what++) {
            int want = what >= 0 && what < due.length ? due[what] : -1;
            check.due(name + ", " + what, call.applyAsInt(what), want);
        }
    }
}
