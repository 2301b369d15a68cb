import java.util.NoSuchElementException;

/**
 * What the calls tell of an object, as one text: two objects with the same past look the same. It asks far
 * more than 512 calls, which the document leaves free; this class answers all the same.
 */
final class Look {
    private final TourRooms x;
    private final StringBuilder told = new StringBuilder();

    private Look(TourRooms x) {
        this.x = x;
    }

    /** By calls that only ask. */
    static String at(TourRooms x) {
        Look look = new Look(x);
        look.ask();
        return look.told.toString();
    }

    /** By all calls: the object is used up, so that bars, ways, the tape and absences come to light too. */
    static String through(TourRooms x) {
        Look look = new Look(x);
        look.ask();
        look.useCoach();
        look.useContracts();
        look.useTape();
        look.useBars();
        look.useNights();
        look.ask();
        return look.told.toString();
    }

    /** The first line in which two looks differ; empty if they are the same. */
    static String difference(String one, String other) {
        String[] a = one.split("\n");
        String[] b = other.split("\n");
        for (int k = 0; k < Math.max(a.length, b.length); k++) {
            String left = k < a.length ? a[k] : "nothing";
            String right = k < b.length ? b[k] : "nothing";
            if (!left.equals(right)) {
                return left + " instead of " + right;
            }
        }
        return "";
    }

    private void line(String name, int... answers) {
        told.append(name);
        for (int answer : answers) {
            told.append(' ').append(answer);
        }
        told.append('\n');
    }

    private void ask() {
        for (int what = 0; what <= 10; what++) {
            line("count(" + what + ")", x.count(what));
        }
        line("moved()", x.moved());
        askTrip();
        for (int person = 0; person < x.count(3); person++) {
            for (int what = 0; what <= 8; what++) {
                line("personOf(" + person + ", " + what + ")", x.personOf(person, what));
            }
            line("owes(" + person + ")", owes(person));
        }
        for (int town = 0; town < x.count(4); town++) {
            askTown(town);
        }
        for (int night = 0; night < x.count(6); night++) {
            line("bill(" + night + ")", bill(night));
            for (int person = 0; person < x.count(3); person++) {
                line("lay(" + night + ", " + person + ")", x.lay(night, person));
            }
        }
    }

    private void askTrip() {
        for (int what : new int[] {0, 1, 2, 10, 11, 12, 13, 14, 15, 20, 21, 22, 23, 24, 25}) {
            line("tripOf(" + what + ")", x.tripOf(what));
        }
    }

    private void askTown(int town) {
        for (int what = 0; what <= 8; what++) {
            line("townOf(" + town + ", " + what + ")", x.townOf(town, what));
        }
        line("right(" + town + ")", x.right(town) ? 1 : 0);
        line("most(" + town + ")", x.most(town));
        line("loss(" + town + ")", x.loss(town, 2, 1, 1, 70), x.gives(town, 2, 1, 1, 70));
        askWorths(town);
        for (int diet = 0; diet < 4; diet++) {
            line("meals(" + town + ", " + diet + ")", x.meals(town, diet));
        }
        for (int room = 0; room < x.townOf(town, 2); room++) {
            for (int what = 0; what <= 4; what++) {
                line("roomOf(" + town + ", " + room + ", " + what + ")", x.roomOf(town, room, what));
            }
        }
        int today = x.count(0);
        for (int day = 0; day <= today; day += today > 40 ? today : 1) {
            for (int person = 0; person < x.count(3); person++) {
                line("listed(" + town + ", " + person + ", " + day + ")", x.listed(town, person, day));
            }
        }
    }

    private void askWorths(int town) {
        for (int kind = 0; kind < 4; kind++) {
            line("worth(" + town + ", " + kind + ")", x.worth(town, kind));
        }
    }

    private int owes(int person) {
        try {
            return x.owes(person);
        } catch (NoSuchElementException e) {
            return -1;
        }
    }

    private int bill(int night) {
        try {
            return x.bill(night);
        } catch (NoSuchElementException e) {
            return -1;
        }
    }

    private void useCoach() {
        for (int minute : new int[] {0, 480, 700, 1000}) {
            line("trip(" + minute + ")", x.trip(minute));
            askTrip();
        }
        // each way alone, there and back
        for (int from = 0; from <= x.count(9); from++) {
            for (int to = 0; to <= x.count(9); to++) {
                useWay(from, to);
            }
        }
        line("clear()", x.clear());
    }

    private void useWay(int from, int to) {
        line("way(" + from + ", " + to + ", 0)", x.way(from, to, 0) ? 1 : 0, x.trip(0), x.tripOf(0), x.tripOf(1));
    }

    private void useContracts() {
        for (int s = 0; s < 4; s++) {
            line("season(" + s + ")", x.season(s) ? 1 : 0);
            for (int town = 0; town < x.count(4); town++) {
                askWorths(town);
            }
        }
    }

    private void useTape() {
        int town = x.count(4) > 0 ? 0 : x.town(1);
        line("read(" + town + ")", x.read(town), x.townOf(town, 8));
        askWorths(town);
    }

    private void useBars() {
        for (int a = 0; a < x.count(3); a++) {
            for (int b = 0; b < a; b++) {
                // it tells whether there was none, and then there is none again
                boolean none = x.bar(a, b, true);
                line("bar(" + a + ", " + b + ", true)", none ? 1 : 0);
                if (none) {
                    x.bar(a, b, false);
                }
            }
        }
    }

    private void useNights() {
        int last = x.count(1) + x.count(5);
        for (int k = 0; k < 11 && x.count(0) < last; k++) {
            line("day", x.day(Math.min(100, last - x.count(0))));
        }
        for (int town = 0; town < x.count(4); town++) {
            makeRight(town);
            line("read", Check.read(x, town, "refund 37; free 1;"));
            for (int k = 0; k < 5 && x.townOf(town, 7) == 0; k++) {
                line("night()", x.night());
            }
        }
    }

    private void makeRight(int town) {
        for (int k = 0; k < 10; k++) {
            line("room(" + town + ")", x.room(town, 1, true, 100 + k));
        }
        for (int room = 0; room < 10; room++) {
            line("buy(" + town + ", " + room + ")", x.buy(town, room));
        }
        for (int person = 0; person < x.count(3) && x.townOf(town, 7) == 0; person++) {
            int cost = x.settle(town, 0);
            line("settle(" + town + ", 0)", cost, x.moved());
            if (cost != TourRooms.NONE) {
                return;
            }
            line("gone(" + person + ")", x.gone(person) ? 1 : 0);
        }
    }
}
