/** Promises 26 to 30: sight, way, clear, trip, tripOf. */
public final class CoachTest {
    private static final Check check = new Check();

    public static void main(String[] args) {
        sight();
        way();
        clear();
        emptyTrips();
        rests();
        limits();
        choice();
        check.end();
    }

    private static void sight() {
        TourRooms x = new TourRooms();
        int[][] wrong = {{-1, 100, 10}, {0, 1441, 10}, {1441, 1440, 1}, {0, -1, 1}, {0, 100, 0},
            {0, 1440, 301}, {0, 9, 10}, {600, 609, 10}, {600, 500, 1}};
        for (int[] w : wrong) {
            check.due("a wrong sight", x.sight(w[0], w[1], w[2]), -1);
        }
        check.due("just long enough", x.sight(600, 610, 10), 1);
        check.due("the longest", x.sight(0, 1440, 300), 2);
        check.due("the last minutes", x.sight(1439, 1440, 1), 3);
        x.sight(0, 1, 1);
        x.sight(0, 1, 1);
        check.due("the 6th", x.sight(0, 1, 1), 6);
        check.due("a 7th", x.sight(0, 1, 1), -1);
        check.due("count(9)", x.count(9), 6);
    }

    private static void way() {
        TourRooms x = new TourRooms();
        check.due("no places", x.way(0, 1, 5), false);
        x.sight(0, 1440, 10);
        check.due("to itself", x.way(0, 0, 5), false);
        check.due("from -1", x.way(-1, 0, 5), false);
        check.due("to -1", x.way(0, -1, 5), false);
        check.due("to 2", x.way(0, 2, 5), false);
        check.due("from 2", x.way(2, 0, 5), false);
        check.due("minutes -1", x.way(0, 1, -1), false);
        check.due("minutes 271", x.way(0, 1, 271), false);
        check.due("minutes 270", x.way(0, 1, 270), true);
        check.due("again", x.way(0, 1, 270), true);
        check.due("no way back", x.trip(0), 0);
        check.due("back", x.way(1, 0, 1), true);
        check.due("a way back", x.trip(0), 1);
        check.due("none any more", x.way(1, 0, 0), true);
        check.due("no way back again", x.trip(0), 0);
    }

    private static void clear() {
        TourRooms x = new TourRooms();
        check.due("none", x.clear(), 0);
        x.sight(0, 1440, 10);
        x.sight(0, 1440, 10);
        x.way(0, 1, 5);
        x.way(1, 0, 5);
        x.trip(0);
        check.due("two", x.clear(), 2);
        check.due("count(9)", x.count(9), 0);
        check.due("what is told stays", x.tripOf(0), 20);
        check.due("its sight too", x.tripOf(10), 1);
        x.sight(0, 1440, 10);
        check.due("no ways", x.trip(0), 0);
        check.due("told anew", x.tripOf(10), -1);
    }

    private static void emptyTrips() {
        TourRooms x = new TourRooms();
        check.due("minute -1", x.trip(-1), -1);
        check.due("minute 1441", x.trip(1441), -1);
        check.due("ahead of any", x.tripOf(0), -1);
        check.due("at the hotel", x.trip(1440), 0);
        check.due("ends as it begins", x.tripOf(0), 1440);
        check.due("no driving", x.tripOf(1), 0);
        check.due("no rests", x.tripOf(2), 0);
        int[] others = {-1, 3, 9, 10, 15, 19, 20, 25, 26, Integer.MIN_VALUE, Integer.MAX_VALUE};
        for (int what : others) {
            check.due("tripOf(" + what + ")", x.tripOf(what), -1);
        }
        x.trip(1441);
        check.due("a refused one changes nothing", x.tripOf(0), 1440);
    }

    private static TourRooms oneSight(int opens, int shuts, int stay, int to, int back) {
        TourRooms x = new TourRooms();
        x.sight(opens, shuts, stay);
        x.way(0, 1, to);
        x.way(1, 0, back);
        return x;
    }

    private static void trip(String name, TourRooms x, int... due) {
        check.due(name + ": sights", x.trip(due[0]), due[1]);
        check.due(name + ": end", x.tripOf(0), due[2]);
        check.due(name + ": driving", x.tripOf(1), due[3]);
        check.due(name + ": rests", x.tripOf(2), due[4]);
    }

    private static void rests() {
        trip("270 in one", oneSight(0, 1440, 44, 135, 135), 0, 1, 314, 270, 0);
        trip("271", oneSight(0, 1440, 44, 135, 136), 0, 1, 360, 271, 1);
        trip("a stay of 45", oneSight(0, 1440, 45, 135, 136), 0, 1, 316, 271, 0);
        trip("waiting is rest too", oneSight(136, 1440, 44, 135, 136), 0, 1, 316, 271, 0);
        trip("waiting is too short", oneSight(135, 1440, 44, 135, 136), 0, 1, 360, 271, 1);
    }

    private static void limits() {
        trip("540 in all", oneSight(0, 1440, 45, 270, 270), 0, 1, 585, 540, 0);
        TourRooms x = new TourRooms();
        x.sight(0, 1440, 60);
        x.sight(0, 1440, 60);
        x.way(0, 1, 180);
        x.way(1, 2, 180);
        x.way(2, 0, 181);
        trip("541 in all", x, 0, 0, 0, 0, 0);
        x.way(2, 0, 180);
        trip("540 by three", x, 0, 2, 660, 540, 0);
        trip("at the end of the day", oneSight(0, 1440, 10, 10, 10), 1410, 1, 1440, 20, 0);
        trip("past the end of the day", oneSight(0, 1440, 10, 10, 10), 1411, 0, 1411, 0, 0);
        trip("before it shuts", oneSight(0, 100, 10, 10, 10), 80, 1, 110, 20, 0);
        trip("it shuts", oneSight(0, 100, 10, 10, 10), 81, 0, 81, 0, 0);
    }

    private static void choice() {
        TourRooms x = new TourRooms();
        x.sight(0, 1440, 10);
        x.sight(0, 1440, 10);
        x.sight(0, 1440, 10);
        x.way(0, 1, 20);
        x.way(1, 0, 20);
        x.way(0, 2, 10);
        x.way(2, 0, 10);
        trip("the one that ends first", x, 0, 1, 30, 20, 0);
        check.due("it is 2", x.tripOf(10), 2);
        x.way(1, 3, 100);
        x.way(3, 0, 100);
        trip("more sights, though longer", x, 0, 2, 240, 220, 0);
        check.due("first", x.tripOf(10), 1);
        check.due("second", x.tripOf(11), 3);
        check.due("no third", x.tripOf(12), -1);
        check.due("first begins", x.tripOf(20), 20);
        check.due("second begins", x.tripOf(21), 130);
        check.due("no third begins", x.tripOf(22), -1);

        TourRooms y = new TourRooms();
        y.sight(100, 1440, 10);
        y.sight(100, 1440, 10);
        y.way(0, 1, 50);
        y.way(0, 2, 40);
        y.way(1, 0, 10);
        y.way(2, 0, 10);
        trip("of one end the least driving", y, 0, 1, 120, 50, 0);
        check.due("it is 2 too", y.tripOf(10), 2);
        y.way(0, 1, 40);
        trip("all alike", y, 0, 1, 120, 50, 0);
        check.due("the first by its sights", y.tripOf(10), 1);
    }
}
