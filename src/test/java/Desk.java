/** Objects with a past, for tests at the edges. */
final class Desk {
    static final int PEOPLE = 8;
    static final int TOWNS = 3;
    static final String TAPE = "back 7;";

    private Desk() {
    }

    /** So many who share, of one sort, for the whole tour. */
    static TourRooms people(int people) {
        TourRooms x = new TourRooms();
        for (int k = 0; k < people; k++) {
            x.person(true, 0, false, 0, 0, 5);
        }
        return x;
    }

    /** Something of everything: night 0 of towns of 2, 3 and 1 nights is closed, and none is over. */
    static TourRooms busy() {
        return busy(TAPE);
    }

    static TourRooms busy(String tape) {
        TourRooms x = new TourRooms();
        busyPeople(x);
        x.start(3);
        x.town(2);
        x.town(3);
        x.town(1);
        busyRooms(x);
        busyLists(x);
        Check.read(x, 0, "fee 10+left when used<held; back 25; refund 40; free 1 when 5<people;");
        Check.read(x, 1, "fee 50; back left+held; refund 10 when season=1;");
        x.give(0, 4);
        x.give(1, 1);
        x.season(1);
        x.absent(4, 0, true);
        x.absent(2, 1, true);
        x.absent(3, 4, true);
        x.day(3);
        x.night();
        busyCoach(x);
        Check.feed(x, tape);
        return x;
    }

    /** As busy(), but town 0 is over. */
    static TourRooms over() {
        TourRooms x = busy();
        x.day(1);
        x.night();
        return x;
    }

    private static void busyPeople(TourRooms x) {
        x.person(false, 0, false, 0, 0, 5);
        x.person(false, 1, false, 1, 0, 5);
        x.person(true, 2, false, 2, 0, 5);
        x.person(true, 2, false, 3, 0, 5);
        x.person(true, 2, true, 0, 0, 5);
        x.person(true, 2, false, 1, 0, 2);
        x.person(true, 3, false, 2, 1, 2);
        x.person(true, 2, false, 2, 0, 5);
        x.friends(0, 1, true);
        x.bar(2, 3, true);
    }

    private static void busyRooms(TourRooms x) {
        for (int town = 0; town < 2; town++) {
            x.room(town, 2, false, 60);
            x.room(town, 2, true, 80);
            x.room(town, 2, false, 70);
            x.room(town, 1, false, 40);
            x.room(town, 1, false, 30);
            x.room(town, 1, true, 35);
        }
        x.room(2, 2, false, 50);
        x.room(2, 2, true, 55);
        x.room(2, 2, false, 51);
    }

    private static void busyLists(TourRooms x) {
        x.put(0, 0, 0);
        x.put(0, 1, 0);
        x.put(0, 2, 1);
        x.put(0, 4, 1);
        x.put(0, 3, 2);
        x.put(0, 5, 2);
        x.put(0, 7, 3);
        x.put(1, 3, 0);
        x.put(1, 7, 4);
        x.gone(7);
        x.settle(1, 0);
        x.put(2, 0, 0);
        x.put(2, 3, 2);
    }

    private static void busyCoach(TourRooms x) {
        x.sight(0, 1440, 30);
        x.sight(600, 900, 60);
        x.sight(0, 1440, 20);
        for (int from = 0; from < 4; from++) {
            for (int to = 0; to < 4; to++) {
                x.way(from, to, 20 + 7 * from + 3 * to);
            }
        }
        x.trip(480);
    }

    /**
     * Nine people in six towns of one night, all on the lists, but person 8 in town 5 if the number of notes is
     * odd: 54 + 4 * 90 = 414 notes by few calls, then one by one. From 414 to 500.
     */
    static TourRooms noted(int notes) {
        TourRooms x = people(9);
        for (int town = 0; town < 6; town++) {
            x.town(1);
            for (int room = 0; room < 5; room++) {
                x.room(town, 2, false, 10);
            }
        }
        settleAll(x);
        for (int round = 0; round < 4; round++) {
            for (int k = 0; k < 9; k++) {
                x.stays(k, 5, 5);
            }
            for (int k = 0; k < 9; k++) {
                x.stays(k, 0, 5);
            }
            settleAll(x);
        }
        int room = x.listed(5, 8, 0);
        for (int has = 414; has < notes; has++) {
            x.put(5, 8, has % 2 == 0 ? -1 : room);
        }
        return x;
    }

    private static void settleAll(TourRooms x) {
        for (int town = 0; town < 6; town++) {
            x.settle(town, 0);
        }
    }
}
