/** Promises 8 to 12: town, start, season, day, room. */
public final class TourTest {
    private static final Check check = new Check();

    public static void main(String[] args) {
        town();
        start();
        season();
        day();
        room();
        check.end();
    }

    private static void town() {
        TourRooms x = new TourRooms();
        check.due("no night", x.town(0), -1);
        check.due("six nights", x.town(6), -1);
        check.due("less than none", x.town(-1), -1);
        int first = 0;
        int[] nights = {5, 1, 2, 5, 3, 4};
        for (int town = 0; town < 6; town++) {
            check.due("town " + town, x.town(nights[town]), town);
            check.due("nights of " + town, x.townOf(town, 0), nights[town]);
            check.due("first night of " + town, x.townOf(town, 1), first);
            first += nights[town];
            check.due("nights in all", x.count(5), first);
        }
        check.due("a 7th", x.town(1), -1);
        check.due("towns", x.count(4), 6);

        TourRooms y = new TourRooms();
        y.start(0);
        y.town(2);
        y.night();
        check.due("a night is closed", y.town(1), -1);
    }

    private static void start() {
        TourRooms x = new TourRooms();
        check.due("day -1", x.start(-1), false);
        check.due("day 401", x.start(401), false);
        check.due("start as it was", x.count(1), 30);
        check.due("day 400", x.start(400), true);
        check.due("start", x.count(1), 400);
        x.town(1);
        Check.read(x, 0, "fee left-300;");
        check.due("left by start", x.worth(0, 0), 100);
        check.due("day 320", x.start(320), true);
        check.due("left by start again", x.worth(0, 0), 20);
        check.due("day 0", x.start(0), true);
        x.night();
        check.due("a night is closed", x.start(5), false);
        check.due("start stays", x.count(1), 0);
    }

    private static void season() {
        TourRooms x = new TourRooms();
        x.town(1);
        Check.read(x, 0, "fee season;");
        for (int s = 0; s < 4; s++) {
            check.due("season " + s, x.season(s), true);
            check.due("told", x.count(2), s);
            check.due("in a contract", x.worth(0, 0), s);
        }
        check.due("season 4", x.season(4), false);
        check.due("season -1", x.season(-1), false);
        check.due("as it was", x.count(2), 3);
    }

    private static void day() {
        TourRooms x = new TourRooms();
        check.due("days 0", x.day(0), 0);
        check.due("days -1", x.day(-1), -1);
        check.due("days 101", x.day(101), -1);
        for (int k = 1; k <= 9; k++) {
            check.due("days 100", x.day(100), 100 * k);
        }
        check.due("days 99", x.day(99), 999);
        check.due("above 1000", x.day(2), -1);
        check.due("as it was", x.count(0), 999);
        check.due("to 1000", x.day(1), 1000);
        check.due("one more", x.day(1), -1);
        check.due("none more", x.day(0), 1000);
        check.due("far more", x.day(Integer.MAX_VALUE), -1);
    }

    private static void room() {
        TourRooms x = new TourRooms();
        check.due("no town", x.room(0, 1, false, 1), -1);
        x.town(1);
        x.town(1);
        check.due("no town -1", x.room(-1, 1, false, 1), -1);
        check.due("no town 2", x.room(2, 1, false, 1), -1);
        check.due("no bed", x.room(0, 0, false, 1), -1);
        check.due("three beds", x.room(0, 3, false, 1), -1);
        check.due("price 0", x.room(0, 1, false, 0), -1);
        check.due("price 1001", x.room(0, 1, false, 1001), -1);
        check.due("room 0", x.room(0, 2, true, 1000), 0);
        check.due("room 1", x.room(0, 1, false, 1), 1);
        int[] first = {2, 1, 1000, 1, 0, -1};
        int[] second = {1, 0, 1, 1, 0, -1};
        for (int what = 0; what < 6; what++) {
            check.due("roomOf(0, 0, " + what + ")", x.roomOf(0, 0, what), first[what]);
            check.due("roomOf(0, 1, " + what + ")", x.roomOf(0, 1, what), second[what]);
        }
        for (int room = 2; room < 10; room++) {
            check.due("room " + room, x.room(0, 1, false, 5), room);
        }
        check.due("an 11th", x.room(0, 1, false, 5), -1);
        check.due("of another town", x.room(1, 1, false, 5), 0);
        x.start(0);
        x.night();
        check.due("a town that is over", x.room(0, 1, false, 5), -1);
        check.due("one that is not", x.room(1, 1, false, 5), 1);
    }
}
