/** The edges of promises 26 to 30: sight, way, clear, trip, tripOf. */
public final class EdgeCoachTest {
    private static final Edge edge = new Edge();
    private static final Check check = edge.check;
    private static final int NONE = Edge.NONE;
    private static final Edge.Make BUSY = Desk::busy;
    private static final Edge.Make ONE = () -> oneSight(0, 1440, 10, 20, 30);

    public static void main(String[] args) {
        sightOfOtherMinutes();
        sightOfAnotherStay();
        sightTooShortForItsStay();
        sightsAreSix();
        wayOfOtherPlaces();
        wayToItself();
        wayOfOtherMinutes();
        wayIsNone();
        wayHasADirection();
        clearOfNothing();
        clearKeepsWhatIsTold();
        clearTakesWaysToo();
        tripAtAnotherMinute();
        tripAtTheHotel();
        tripShuts();
        tripOpens();
        tripRestsAbove270();
        tripRestsBy45Minutes();
        tripRestsAnew();
        tripDrives540();
        tripEndsBy1440();
        tripTakesSix();
        tripThatEndsFirst();
        tripIsTheFirstOfSeveral();
        tripOfAheadOfAny();
        tripOfOthers();
        tripOfSights();
        check.end();
    }

    private static TourRooms oneSight(int opens, int shuts, int stay, int to, int back) {
        TourRooms x = new TourRooms();
        check.due("the SIGHT", x.sight(opens, shuts, stay), 1);
        check.due("the WAY to it", x.way(0, 1, to), true);
        check.due("the WAY back", x.way(1, 0, back), true);
        return x;
    }

    private static void sightOfOtherMinutes() {
        for (int wrong : new int[] {-1, Edge.LEAST, 1441, Edge.MOST}) {
            edge.none("sight that OPENS at " + wrong, BUSY, x -> x.sight(wrong, 1440, 1));
            edge.none("sight that SHUTS at " + wrong, BUSY, x -> x.sight(0, wrong, 1));
        }
        edge.none("both beyond", BUSY, x -> x.sight(1441, 1442, 1));
        edge.none("both below", BUSY, x -> x.sight(-2, -1, 1));
        edge.none("SHUTS at 0", BUSY, x -> x.sight(0, 0, 1));
        edge.none("OPENS at 1440", BUSY, x -> x.sight(1440, 1440, 1));
        edge.is("the first minute", BUSY, x -> x.sight(0, 1, 1), 4);
        edge.is("the last minute", BUSY, x -> x.sight(1439, 1440, 1), 4);
        edge.is("all day", BUSY, x -> x.sight(0, 1440, 300), 4);
    }

    private static void sightOfAnotherStay() {
        for (int wrong : new int[] {0, -1, 301, 302, Edge.LEAST, Edge.MOST}) {
            edge.none("sight of STAY " + wrong, BUSY, x -> x.sight(0, 1440, wrong));
        }
        for (int stay : new int[] {1, 2, 299, 300}) {
            edge.is("sight of STAY " + stay, BUSY, x -> x.sight(0, 1440, stay), 4);
        }
    }

    private static void sightTooShortForItsStay() {
        edge.none("a minute too short", BUSY, x -> x.sight(600, 659, 60));
        edge.is("just long enough", BUSY, x -> x.sight(600, 660, 60), 4);
        edge.none("SHUTS as it OPENS", BUSY, x -> x.sight(600, 600, 1));
        edge.is("SHUTS a minute later", BUSY, x -> x.sight(600, 601, 1), 4);
        edge.none("SHUTS ahead of that", BUSY, x -> x.sight(600, 599, 1));
        edge.none("too short by its end", BUSY, x -> x.sight(1141, 1440, 300));
        edge.is("long enough by its end", BUSY, x -> x.sight(1140, 1440, 300), 4);
    }

    private static TourRooms sights(int sights) {
        TourRooms x = new TourRooms();
        for (int k = 1; k <= sights; k++) {
            check.due("SIGHT " + k, x.sight(0, 1440, 10), k);
        }
        return x;
    }

    private static void sightsAreSix() {
        TourRooms x = edge.is("a 6th SIGHT", () -> sights(5), y -> y.sight(0, 100, 10), 6);
        check.due("SIGHTS", x.count(9), 6);
        edge.none("a 7th SIGHT", () -> sights(6), y -> y.sight(0, 100, 10));
        x.clear();
        check.due("from 1 again", x.sight(0, 100, 10), 1);
    }

    private static void wayOfOtherPlaces() {
        for (int wrong : new int[] {-1, 2, 6, 7, Edge.LEAST, Edge.MOST}) {
            edge.no("way to PLACE " + wrong, ONE, x -> x.way(0, wrong, 50));
            edge.no("way from PLACE " + wrong, ONE, x -> x.way(wrong, 0, 50));
            edge.no("no way to PLACE " + wrong, ONE, x -> x.way(1, wrong, 0));
        }
        edge.no("way to a 7th SIGHT", () -> sights(6), x -> x.way(0, 7, 50));
        edge.yes("way to the last SIGHT", () -> sights(6), x -> x.way(0, 6, 50));
        edge.yes("way from the last SIGHT", () -> sights(6), x -> x.way(6, 5, 50));
        edge.no("way to a SIGHT that is no more", () -> {
            TourRooms x = sights(2);
            x.clear();
            return x;
        }, x -> x.way(0, 1, 50));
    }

    private static void wayToItself() {
        edge.no("way from the HOTEL to itself", ONE, x -> x.way(0, 0, 50));
        edge.no("way from a SIGHT to itself", ONE, x -> x.way(1, 1, 50));
        edge.no("no way from a SIGHT to itself", ONE, x -> x.way(1, 1, 0));
    }

    private static void wayOfOtherMinutes() {
        for (int wrong : new int[] {-1, 271, 272, Edge.LEAST, Edge.MOST}) {
            edge.no("way of " + wrong, ONE, x -> x.way(0, 1, wrong));
        }
        for (int minutes : new int[] {1, 2, 269, 270}) {
            TourRooms x = edge.yes("way of " + minutes, ONE, y -> y.way(0, 1, minutes));
            check.due("a trip by it", x.trip(0), 1);
            check.due("driving", x.tripOf(1), minutes + 30);
        }
        edge.told("way as it is", ONE, x -> x.way(0, 1, 20) ? 1 : 0, 1);
    }

    private static void wayIsNone() {
        TourRooms x = edge.yes("no WAY to it", ONE, y -> y.way(0, 1, 0));
        check.due("no trip", x.trip(0), 0);
        TourRooms z = edge.yes("no WAY back", ONE, y -> y.way(1, 0, 0));
        check.due("no trip either", z.trip(0), 0);
        edge.told("none where there is none", () -> sights(2), y -> y.way(0, 1, 0) ? 1 : 0, 1);
        check.due("no WAYS at first", sights(6).trip(0), 0);
    }

    private static void wayHasADirection() {
        TourRooms x = ONE.make();
        x.trip(0);
        check.due("when it is come to", x.tripOf(20), 20);
        check.due("the end", x.tripOf(0), 60);
    }

    private static void clearOfNothing() {
        edge.told("clear of nothing", TourRooms::new, TourRooms::clear, 0);
        for (int count = 1; count <= 6; count++) {
            int c = count;
            TourRooms x = edge.is("clear of " + c, () -> sights(c), TourRooms::clear, c);
            check.due("none then", x.clear(), 0);
            check.due("SIGHTS", x.count(9), 0);
        }
    }

    private static void clearKeepsWhatIsTold() {
        TourRooms x = Desk.busy();
        int[] told = {x.tripOf(0), x.tripOf(1), x.tripOf(2), x.tripOf(10), x.tripOf(12), x.tripOf(22)};
        check.due("clear", x.clear(), 3);
        int[] then = {x.tripOf(0), x.tripOf(1), x.tripOf(2), x.tripOf(10), x.tripOf(12), x.tripOf(22)};
        for (int k = 0; k < told.length; k++) {
            check.due("what is told stays", then[k], told[k]);
        }
        check.due("a trip without SIGHTS", x.trip(480), 0);
        check.due("is told then", x.tripOf(10), NONE);
    }

    private static void clearTakesWaysToo() {
        TourRooms x = ONE.make();
        x.clear();
        x.sight(0, 1440, 10);
        check.due("no WAYS", x.trip(0), 0);
        x.way(0, 1, 20);
        check.due("no WAY back", x.trip(0), 0);
        x.way(1, 0, 20);
        check.due("both", x.trip(0), 1);
    }

    private static void tripAtAnotherMinute() {
        for (int wrong : new int[] {-1, 1441, 1442, Edge.LEAST, Edge.MOST}) {
            edge.none("trip at " + wrong, BUSY, x -> x.trip(wrong));
            edge.none("a first trip at " + wrong, ONE, x -> x.trip(wrong));
        }
        edge.is("trip at 0", ONE, x -> x.trip(0), 1);
        TourRooms x = edge.is("trip at 1440", ONE, y -> y.trip(1440), 0);
        check.due("its end", x.tripOf(0), 1440);
    }

    private static void trip(String name, TourRooms x, int... due) {
        check.due(name + ": SIGHTS", x.trip(due[0]), due[1]);
        check.due(name + ": end", x.tripOf(0), due[2]);
        check.due(name + ": driving", x.tripOf(1), due[3]);
        check.due(name + ": RESTS", x.tripOf(2), due[4]);
    }

    private static void tripAtTheHotel() {
        for (int minute : new int[] {0, 1, 720, 1439, 1440}) {
            trip("no SIGHT at " + minute, new TourRooms(), minute, 0, minute, 0, 0);
        }
        TourRooms x = oneSight(0, 1440, 1, 270, 1);
        trip("a trip with a REST", x, 0, 1, 317, 271, 1);
        trip("and then none", x, 1440, 0, 1440, 0, 0);
        trip("SIGHTS without WAYS", sights(6), 77, 0, 77, 0, 0);
    }

    private static void tripShuts() {
        trip("the STAY ends as it SHUTS", oneSight(0, 130, 10, 20, 30), 100, 1, 160, 50, 0);
        trip("it would end a minute later", oneSight(0, 130, 10, 20, 30), 101, 0, 101, 0, 0);
        trip("it waits, and ends as it SHUTS", oneSight(600, 610, 10, 20, 30), 0, 1, 640, 50, 0);
    }

    private static void tripOpens() {
        TourRooms x = oneSight(120, 1440, 10, 20, 30);
        trip("come to as it OPENS", x, 100, 1, 160, 50, 0);
        check.due("begins", x.tripOf(20), 120);
        trip("a minute early", x, 99, 1, 160, 50, 0);
        check.due("begins too", x.tripOf(20), 120);
        trip("a minute late", x, 101, 1, 161, 50, 0);
        check.due("begins late", x.tripOf(20), 121);
    }

    private static void tripRestsAbove270() {
        trip("270 since the last REST", oneSight(0, 1440, 44, 1, 269), 0, 1, 314, 270, 0);
        trip("271 since the last REST", oneSight(0, 1440, 44, 1, 270), 0, 1, 360, 271, 1);
        trip("270 on the first WAY", oneSight(0, 1440, 1, 270, 1), 0, 1, 317, 271, 1);
        trip("269 on the first WAY", oneSight(0, 1440, 1, 269, 1), 0, 1, 271, 270, 0);
    }

    private static void tripRestsBy45Minutes() {
        trip("44 at a SIGHT", oneSight(0, 1440, 44, 270, 270), 0, 1, 629, 540, 1);
        trip("45 at a SIGHT", oneSight(0, 1440, 45, 270, 270), 0, 1, 585, 540, 0);
        trip("44 with waiting", oneSight(313, 1440, 1, 270, 270), 0, 1, 629, 540, 1);
        trip("45 with waiting", oneSight(314, 1440, 1, 270, 270), 0, 1, 585, 540, 0);
    }

    /** Three SIGHTS in a row, of which each WAY is of so many minutes. */
    private static TourRooms row(int stay, int... ways) {
        TourRooms x = new TourRooms();
        for (int k = 1; k < ways.length; k++) {
            x.sight(0, 1440, stay);
        }
        for (int k = 0; k < ways.length; k++) {
            x.way(k, k == ways.length - 1 ? 0 : k + 1, ways[k]);
        }
        return x;
    }

    private static void tripRestsAnew() {
        // 180, then a REST and 90, 90, 90: just 270
        trip("a REST counts from its WAY on", row(1, 180, 91, 90, 89), 0, 3, 498, 450, 1);
        trip("a second REST", row(1, 180, 91, 90, 90), 0, 3, 544, 451, 2);
        trip("a SIGHT of 45 minutes counts too", row(45, 180, 91, 90, 90), 0, 3, 586, 451, 0);
        trip("each of 135", row(1, 135, 135, 135, 135), 0, 3, 588, 540, 1);
        // 45 minutes at the first SIGHT, then two WAYS of 270 or 271 by one of a minute
        TourRooms x = oneSight(0, 1440, 45, 100, 270);
        x.sight(0, 1440, 1);
        x.way(1, 2, 135);
        x.way(2, 0, 135);
        trip("270 since a SIGHT of 45 minutes", x, 0, 2, 416, 370, 0);
        x.way(2, 0, 136);
        trip("271 since a SIGHT of 45 minutes", x, 0, 2, 462, 371, 1);
    }

    private static void tripDrives540() {
        trip("540 in all", row(45, 180, 180, 180), 0, 2, 630, 540, 0);
        trip("541 in all", row(45, 180, 180, 181), 0, 0, 0, 0, 0);
        trip("541, the first longer", row(45, 181, 180, 180), 0, 0, 0, 0, 0);
        TourRooms x = row(45, 180, 180, 181);
        x.way(1, 0, 200);
        trip("541, but a shorter one", x, 0, 1, 425, 380, 0);
    }

    private static void tripEndsBy1440() {
        trip("ends at 1440", oneSight(0, 1440, 10, 20, 30), 1380, 1, 1440, 50, 0);
        trip("would end at 1441", oneSight(0, 1440, 10, 20, 30), 1381, 0, 1381, 0, 0);
        trip("a REST ends at 1440", oneSight(0, 1440, 44, 1, 270), 1080, 1, 1440, 271, 1);
        trip("a REST beyond it", oneSight(0, 1440, 44, 1, 270), 1081, 0, 1081, 0, 0);
    }

    private static void tripTakesSix() {
        TourRooms x = row(10, 10, 10, 10, 10, 10, 10, 10);
        trip("six SIGHTS", x, 0, 6, 130, 70, 0);
        for (int k = 0; k < 6; k++) {
            check.due("SIGHT " + k, x.tripOf(10 + k), k + 1);
            check.due("its STAY", x.tripOf(20 + k), 10 + 20 * k);
        }
        check.due("no 7th", x.tripOf(16), NONE);
        check.due("no 7th STAY", x.tripOf(26), NONE);
        TourRooms y = sights(1);
        y.way(0, 1, 10);
        y.way(1, 0, 10);
        trip("each once at most", y, 0, 1, 30, 20, 0);
    }

    private static void tripIsTheFirstOfSeveral() {
        TourRooms x = sights(6);
        for (int from = 0; from <= 6; from++) {
            for (int to = 0; to <= 6; to++) {
                x.way(from, to, 10);
            }
        }
        trip("all alike", x, 0, 6, 130, 70, 0);
        for (int k = 0; k < 6; k++) {
            check.due("in their order", x.tripOf(10 + k), k + 1);
        }
        x.way(0, 1, 11);
        trip("one WAY longer", x, 0, 6, 130, 70, 0);
        int[] due = {2, 1, 3, 4, 5, 6};
        for (int k = 0; k < 6; k++) {
            check.due("the first of the others", x.tripOf(10 + k), due[k]);
        }
    }

    private static void tripThatEndsFirst() {
        TourRooms x = oneSight(0, 1440, 10, 50, 50);
        x.sight(101, 1440, 5);
        x.way(0, 2, 5);
        x.way(2, 0, 5);
        trip("ends a minute ahead, though it drives more", x, 0, 1, 110, 100, 0);
        x.way(0, 1, 51);
        trip("ends as early, and drives more", x, 0, 1, 111, 10, 0);
        check.due("the other one", x.tripOf(10), 2);
        x.way(0, 1, 52);
        trip("ends a minute later", x, 0, 1, 111, 10, 0);
    }

    private static void tripOfAheadOfAny() {
        for (int what : new int[] {-1, 0, 1, 2, 3, 10, 15, 20, 25}) {
            edge.none("tripOf(" + what + ") ahead of any", ONE, x -> x.tripOf(what));
        }
        edge.none("tripOf(0) behind a refused one", () -> {
            TourRooms x = ONE.make();
            x.trip(1441);
            return x;
        }, x -> x.tripOf(0));
    }

    private static void tripOfOthers() {
        for (int what : new int[] {-1, 3, 4, 9, 13, 15, 16, 19, 23, 25, 26, 30, -10, Edge.LEAST, Edge.MOST}) {
            edge.none("tripOf(" + what + ")", BUSY, x -> x.tripOf(what));
        }
        edge.told("the end", BUSY, x -> x.tripOf(0), 730);
        edge.told("driving", BUSY, x -> x.tripOf(1), 140);
        edge.told("RESTS", BUSY, x -> x.tripOf(2), 0);
    }

    private static void tripOfSights() {
        Edge.Make told = () -> {
            TourRooms x = ONE.make();
            x.trip(100);
            return x;
        };
        edge.told("its SIGHT", told, x -> x.tripOf(10), 1);
        edge.none("a second SIGHT", told, x -> x.tripOf(11));
        edge.told("its STAY", told, x -> x.tripOf(20), 120);
        edge.none("a second STAY", told, x -> x.tripOf(21));
        Edge.Make none = () -> {
            TourRooms x = told.make();
            x.trip(1440);
            return x;
        };
        edge.none("no SIGHT", none, x -> x.tripOf(10));
        edge.none("no STAY", none, x -> x.tripOf(20));
    }
}
