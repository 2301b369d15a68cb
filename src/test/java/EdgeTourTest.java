/** The edges of promises 8 to 12: town, start, season, day, room. */
public final class EdgeTourTest {
    private static final Edge edge = new Edge();
    private static final Check check = edge.check;
    private static final int NONE = Edge.NONE;
    private static final Edge.Make BUSY = Desk::busy;
    private static final Edge.Make OVER = Desk::over;
    private static final Edge.Make OPEN = EdgeTourTest::open;

    public static void main(String[] args) {
        townOfAnotherNumberOfNights();
        townsAreSix();
        noTownIsTheSeventh();
        townBehindAClosedNight();
        townsFollowOneAnother();
        startOnAnotherDay();
        startBehindAClosedNight();
        startIsTheDayOfNightNought();
        seasonIsAnother();
        daysOfAnotherNumber();
        daysAboveAThousand();
        roomOfNoSuchTown();
        roomOfATownThatIsOver();
        roomOfOtherBeds();
        roomOfAnotherPrice();
        roomsAreTen();
        roomIsHeldAtFirst();
        check.end();
    }

    /** People, towns and rooms, and no night closed. */
    private static TourRooms open() {
        TourRooms x = Desk.people(3);
        x.town(2);
        x.town(4);
        x.room(0, 2, false, 30);
        x.room(0, 1, true, 20);
        x.room(1, 1, true, 25);
        x.settle(0, 0);
        x.absent(1, 1, true);
        Check.read(x, 1, "fee left;");
        return x;
    }

    private static void townOfAnotherNumberOfNights() {
        for (int nights : new int[] {0, -1, 6, 7, 30, Edge.LEAST, Edge.MOST}) {
            edge.none("town of " + nights, OPEN, x -> x.town(nights));
        }
        for (int nights = 1; nights <= 5; nights++) {
            int n = nights;
            TourRooms x = edge.is("town of " + n, OPEN, y -> y.town(n), 2);
            check.due("its NIGHTS", x.townOf(2, 0), n);
            check.due("NIGHTS in all", x.count(5), 6 + n);
        }
    }

    private static TourRooms towns(int towns) {
        TourRooms x = Desk.people(2);
        for (int k = 0; k < towns; k++) {
            x.town(5);
        }
        return x;
    }

    private static void townsAreSix() {
        TourRooms x = edge.is("a 6th TOWN", () -> towns(5), y -> y.town(5), 5);
        check.due("TOWNS", x.count(4), 6);
        check.due("NIGHTS", x.count(5), 30);
        edge.none("a 7th TOWN", () -> towns(6), y -> y.town(1));
    }

    /** Beside six towns there is none of the number 6, whatever is asked of it. */
    private static void noTownIsTheSeventh() {
        Edge.Make six = () -> towns(6);
        edge.none("room", six, x -> x.room(6, 1, false, 10));
        edge.no("put", six, x -> x.put(6, 0, NONE));
        edge.none("settle", six, x -> x.settle(6, 0));
        edge.none("most", six, x -> x.most(6));
        edge.no("right", six, x -> x.right(6));
        edge.none("listed", six, x -> x.listed(6, 0, 0));
        edge.none("read", six, x -> x.read(6));
        edge.none("worth", six, x -> x.worth(6, 0));
        edge.none("give", six, x -> x.give(6, 0));
        edge.none("buy", six, x -> x.buy(6, 0));
        edge.none("loss", six, x -> x.loss(6, 0, 0, 0, 0));
        edge.none("gives", six, x -> x.gives(6, 0, 0, 0, 0));
        edge.none("meals", six, x -> x.meals(6, 0));
        edge.none("townOf", six, x -> x.townOf(6, 0));
        edge.none("roomOf", six, x -> x.roomOf(6, 0, 0));
    }

    private static void townBehindAClosedNight() {
        edge.none("town, one NIGHT being closed", BUSY, x -> x.town(1));
        edge.none("town, a TOWN being OVER", OVER, x -> x.town(1));
        edge.none("town, all NIGHTS being closed", () -> {
            TourRooms x = new TourRooms();
            x.start(0);
            x.town(1);
            x.night();
            return x;
        }, x -> x.town(1));
        TourRooms x = edge.is("town, night() being refused", () -> {
            TourRooms y = open();
            check.due("night() ahead of its day", y.night(), NONE);
            return y;
        }, y -> y.town(1), 2);
        check.due("TOWNS", x.count(4), 3);
    }

    private static void townsFollowOneAnother() {
        TourRooms x = towns(6);
        for (int town = 0; town < 6; town++) {
            check.due("first NIGHT of " + town, x.townOf(town, 1), 5 * town);
        }
        Check.read(x, 5, "fee left;");
        check.due("LEFT of the last TOWN", x.worth(5, 0), 55);
    }

    private static void startOnAnotherDay() {
        for (int day : new int[] {-1, 401, 1000, Edge.LEAST, Edge.MOST}) {
            edge.no("start on " + day, OPEN, x -> x.start(day));
        }
        for (int day : new int[] {0, 1, 399, 400}) {
            TourRooms x = edge.yes("start on " + day, OPEN, y -> y.start(day));
            check.due("START", x.count(1), day);
        }
        edge.told("start as it is", OPEN, x -> x.start(30) ? 1 : 0, 1);
    }

    private static void startBehindAClosedNight() {
        edge.no("start, a NIGHT being closed", BUSY, x -> x.start(4));
        edge.no("start as it is, a NIGHT being closed", BUSY, x -> x.start(3));
        edge.no("start, a TOWN being OVER", OVER, x -> x.start(0));
    }

    private static void startIsTheDayOfNightNought() {
        TourRooms x = new TourRooms();
        x.town(1);
        x.town(1);
        x.start(400);
        for (int k = 0; k < 4; k++) {
            check.due("night() on day " + x.count(0), x.night(), NONE);
            x.day(k == 3 ? 99 : 100);
        }
        check.due("night() on day 399", x.night(), NONE);
        check.due("day 400", x.day(1), 400);
        check.due("night() on day 400", x.night(), 0);
        check.due("NIGHT 1 on day 400", x.night(), NONE);
        x.day(1);
        check.due("NIGHT 1 on day 401", x.night(), 1);
    }

    private static void seasonIsAnother() {
        for (int s : new int[] {-1, 4, 5, Edge.LEAST, Edge.MOST}) {
            edge.no("season " + s, BUSY, x -> x.season(s));
        }
        for (int s = 0; s <= 3; s++) {
            int season = s;
            TourRooms x = edge.yes("season " + s, BUSY, y -> y.season(season));
            check.due("SEASON", x.count(2), s);
        }
        edge.told("season as it is", BUSY, x -> x.season(1) ? 1 : 0, 1);
    }

    private static void daysOfAnotherNumber() {
        for (int days : new int[] {-1, 101, 102, Edge.LEAST, Edge.MOST}) {
            edge.none("days " + days, BUSY, x -> x.day(days));
        }
        edge.told("days 0", BUSY, x -> x.day(0), 3);
        for (int days : new int[] {1, 99, 100}) {
            TourRooms x = edge.is("days " + days, BUSY, y -> y.day(days), 3 + days);
            check.due("DAY", x.count(0), 3 + days);
        }
    }

    private static TourRooms late(int day) {
        TourRooms x = open();
        while (x.count(0) < day) {
            x.day(Math.min(100, day - x.count(0)));
        }
        return x;
    }

    private static void daysAboveAThousand() {
        edge.is("to 1000 by 100", () -> late(900), x -> x.day(100), 1000);
        edge.none("to 1001 by 100", () -> late(901), x -> x.day(100));
        edge.is("to 1000 by 1", () -> late(999), x -> x.day(1), 1000);
        edge.none("to 1001 by 2", () -> late(999), x -> x.day(2));
        edge.none("to 1001 by 1", () -> late(1000), x -> x.day(1));
        edge.told("no day on the last", () -> late(1000), x -> x.day(0), 1000);
        edge.none("far beyond", () -> late(1000), x -> x.day(Edge.MOST));
    }

    private static void roomOfNoSuchTown() {
        for (int town : new int[] {-1, 3, 6, Edge.LEAST, Edge.MOST}) {
            edge.none("room of TOWN " + town, BUSY, x -> x.room(town, 1, false, 10));
        }
        edge.is("room of the last TOWN", BUSY, x -> x.room(2, 1, false, 10), 3);
    }

    private static void roomOfATownThatIsOver() {
        edge.none("room of a TOWN that is OVER", OVER, x -> x.room(0, 1, false, 10));
        edge.is("room of a TOWN between its NIGHTS", BUSY, x -> x.room(0, 1, false, 10), 6);
        edge.is("room of the next TOWN", OVER, x -> x.room(1, 1, false, 10), 6);
    }

    private static void roomOfOtherBeds() {
        for (int beds : new int[] {0, -1, 3, 4, Edge.LEAST, Edge.MOST}) {
            edge.none("room of BEDS " + beds, BUSY, x -> x.room(0, beds, false, 10));
        }
        for (int beds = 1; beds <= 2; beds++) {
            int b = beds;
            TourRooms x = edge.is("room of BEDS " + b, BUSY, y -> y.room(0, b, false, 10), 6);
            check.due("BEDS", x.roomOf(0, 6, 0), b);
        }
    }

    private static void roomOfAnotherPrice() {
        for (int price : new int[] {0, -1, 1001, Edge.LEAST, Edge.MOST}) {
            edge.none("room of PRICE " + price, BUSY, x -> x.room(0, 1, false, price));
        }
        for (int price : new int[] {1, 2, 999, 1000}) {
            TourRooms x = edge.is("room of PRICE " + price, BUSY, y -> y.room(0, 1, true, price), 6);
            check.due("PRICE", x.roomOf(0, 6, 2), price);
        }
    }

    private static TourRooms rooms(int rooms) {
        TourRooms x = open();
        for (int k = 2; k < rooms; k++) {
            x.room(0, 1, false, 10 + k);
        }
        return x;
    }

    private static void roomsAreTen() {
        edge.is("a 10th ROOM", () -> rooms(9), x -> x.room(0, 2, false, 10), 9);
        edge.none("an 11th ROOM", () -> rooms(10), x -> x.room(0, 2, false, 10));
        edge.is("a ROOM of another TOWN", () -> rooms(10), x -> x.room(1, 2, false, 10), 1);
        edge.none("an 11th ROOM, one not being HELD", () -> {
            TourRooms x = rooms(10);
            x.give(0, 9);
            return x;
        }, x -> x.room(0, 2, false, 10));
    }

    private static void roomIsHeldAtFirst() {
        TourRooms x = edge.is("a ROOM", BUSY, y -> y.room(0, 2, true, 90), 6);
        check.due("HELD", x.roomOf(0, 6, 3), 1);
        check.due("LOW", x.roomOf(0, 6, 1), 1);
        check.due("nobody in it", x.roomOf(0, 6, 4), 0);
        check.due("one more HELD", x.townOf(0, 3), 6);
    }
}
