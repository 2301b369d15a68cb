/** The edges of promises 31 to 35: night, lay, bill, owes, meals. */
public final class EdgeBookTest {
    private static final Edge edge = new Edge();
    private static final Check check = edge.check;
    private static final int NONE = Edge.NONE;
    private static final Edge.Make BUSY = Desk::busy;
    private static final Edge.Make OVER = Desk::over;

    public static void main(String[] args) {
        nightWhereThereIsNone();
        nightAheadOfItsDay();
        nightLater();
        nightOfAListThatIsNotRight();
        nightOfNobody();
        nightsAreThirty();
        overWithTheLastNight();
        layOfNoneSuch();
        layInNightsThatAreClosed();
        layOfOneWithoutARoom();
        billOfNoneSuch();
        billOfRoomsButFreeOnes();
        billOfTheCheapest();
        owesOfNoneSuch();
        owesHalfEach();
        owesLessWhereAbsent();
        owesByWorthsAsTheNightIsClosed();
        mealsOfNoneSuch();
        mealsOfThoseOnTheList();
        check.end();
    }

    private static void nightWhereThereIsNone() {
        edge.none("no TOWN", () -> Desk.people(2), TourRooms::night);
        edge.none("all are closed", EdgeBookTest::allClosed, TourRooms::night);
        check.due("one is left", allButOne().night(), 1);
    }

    /** A town of two nights for nobody; night 0 is closed. */
    private static TourRooms allButOne() {
        TourRooms x = new TourRooms();
        x.start(0);
        x.town(2);
        x.day(9);
        check.due("NIGHT 0", x.night(), 0);
        return x;
    }

    private static TourRooms allClosed() {
        TourRooms x = allButOne();
        check.due("NIGHT 1", x.night(), 1);
        return x;
    }

    private static void nightAheadOfItsDay() {
        edge.none("NIGHT 1 on the day of NIGHT 0", BUSY, TourRooms::night);
        TourRooms x = Desk.busy();
        x.day(1);
        check.due("NIGHT 1 on its day", x.night(), 1);
        edge.none("NIGHT 2 on the day of NIGHT 1", OVER, TourRooms::night);
        Edge.Make first = () -> {
            TourRooms y = new TourRooms();
            y.town(1);
            y.day(29);
            return y;
        };
        edge.none("NIGHT 0 a day ahead", first, TourRooms::night);
        edge.is("NIGHT 0 on its day", () -> {
            TourRooms y = first.make();
            y.day(1);
            return y;
        }, TourRooms::night, 0);
        edge.is("NIGHT 0 on day 0", () -> {
            TourRooms y = new TourRooms();
            y.town(1);
            y.start(0);
            return y;
        }, TourRooms::night, 0);
    }

    private static void nightLater() {
        TourRooms x = new TourRooms();
        x.town(2);
        x.town(1);
        for (int k = 0; k < 10; k++) {
            x.day(100);
        }
        for (int night = 0; night < 3; night++) {
            check.due("a NIGHT on day 1000", x.night(), night);
        }
        check.due("no more", x.night(), NONE);
    }

    private static void nightOfAListThatIsNotRight() {
        edge.none("one has no ROOM", () -> nextDay(x -> x.put(0, 5, NONE)), TourRooms::night);
        edge.none("one more is THERE", () -> nextDay(x -> x.stays(6, 0, 2)), TourRooms::night);
        edge.none("a BAR", () -> nextDay(x -> x.bar(2, 4, true)), TourRooms::night);
        edge.none("no FRIENDS any more", () -> nextDay(x -> x.friends(0, 1, false)), TourRooms::night);
        edge.is("the LIST of another TOWN is not RIGHT", () -> nextDay(x -> x.put(1, 0, NONE)), TourRooms::night, 1);
        edge.is("RIGHT again", () -> nextDay(x -> x.put(0, 5, NONE) && x.put(0, 5, 2)), TourRooms::night, 1);
    }

    private static TourRooms nextDay(Edge.Truth change) {
        TourRooms x = Desk.busy();
        x.day(1);
        check.due("the change", change.of(x), true);
        return x;
    }

    private static void nightOfNobody() {
        TourRooms x = new TourRooms();
        x.start(0);
        x.town(1);
        x.room(0, 1, false, 50);
        check.due("nobody is there", x.night(), 0);
        check.due("its BILL", x.bill(0), 0);
        check.due("closed", x.count(6), 1);
    }

    private static void nightsAreThirty() {
        TourRooms x = Desk.people(1);
        x.start(0);
        for (int town = 0; town < 6; town++) {
            x.town(5);
            x.room(town, 1, false, 1000);
            x.put(town, 0, 0);
        }
        x.day(29);
        x.absent(0, 29, true);
        Check.read(x, 5, "refund 100;");
        for (int night = 0; night < 30; night++) {
            check.due("NIGHT", x.night(), night);
        }
        check.due("no 31st", x.night(), NONE);
        check.due("closed", x.count(6), 30);
        check.due("absent in the last one alone", x.owes(0), 29000);
        check.due("BILL of the last", x.bill(29), 1000);
        check.due("lay in the last", x.lay(29, 0), 0);
    }

    private static void overWithTheLastNight() {
        TourRooms x = Desk.busy();
        check.due("OVER behind its first NIGHT", x.townOf(0, 7), 0);
        x.day(100);
        check.due("OVER by days", x.townOf(0, 7), 0);
        check.due("the last NIGHT", x.night(), 1);
        check.due("OVER behind its last NIGHT", x.townOf(0, 7), 1);
        check.due("the next TOWN", x.townOf(1, 7), 0);
    }

    private static void layOfNoneSuch() {
        for (int wrong : new int[] {-1, 8, 9, 10, Edge.LEAST, Edge.MOST}) {
            edge.none("lay of PERSON " + wrong, OVER, x -> x.lay(0, wrong));
        }
        for (int wrong : new int[] {-1, 2, 5, 6, 30, Edge.LEAST, Edge.MOST}) {
            edge.none("lay in NIGHT " + wrong, OVER, x -> x.lay(wrong, 0));
        }
    }

    private static void layInNightsThatAreClosed() {
        edge.told("lay in NIGHT 0", OVER, x -> x.lay(0, 3), 2);
        edge.told("lay in NIGHT 1", OVER, x -> x.lay(1, 3), 2);
        edge.none("lay in NIGHT 1, which is not closed", BUSY, x -> x.lay(1, 3));
        TourRooms ten = closedByTen();
        for (int person = 0; person < 10; person++) {
            check.due("lay of " + person + " of ten", ten.lay(0, person), 9 - person);
        }
        check.due("no 11th lay", ten.lay(0, 10), NONE);
        TourRooms x = Desk.busy();
        x.put(0, 3, 3);
        check.due("as it was written", x.lay(0, 3), 2);
        x.day(1);
        x.night();
        check.due("as it was the next NIGHT", x.lay(1, 3), 3);
    }

    private static TourRooms closedByTen() {
        TourRooms x = Desk.people(10);
        x.start(0);
        x.town(1);
        for (int k = 0; k < 10; k++) {
            x.room(0, 1, false, 10);
        }
        for (int k = 0; k < 10; k++) {
            x.put(0, k, 9 - k);
        }
        check.due("NIGHT", x.night(), 0);
        return x;
    }

    private static void layOfOneWithoutARoom() {
        edge.none("one who is not THERE yet", OVER, x -> x.lay(0, 6));
        edge.none("one who is GONE", OVER, x -> x.lay(0, 7));
        TourRooms x = Desk.over();
        check.due("a new one", x.person(true, 2, false, 0, 0, 5), 8);
        check.due("who came later", x.lay(0, 8), NONE);
        x.gone(3);
        check.due("who is GONE since", x.lay(1, 3), 2);
    }

    private static void billOfNoneSuch() {
        for (int wrong : new int[] {-1, 2, 3, 5, 6, 30, Edge.LEAST, Edge.MOST}) {
            edge.thrown("bill of NIGHT " + wrong, OVER, x -> x.bill(wrong));
        }
        edge.thrown("bill of the next NIGHT", BUSY, x -> x.bill(1));
        edge.told("bill of the first", OVER, x -> x.bill(0), 150);
        edge.told("bill of the last", OVER, x -> x.bill(1), 150);
    }

    /** Rooms of 10, 20, 30 .. with somebody in each, one night by a text. */
    private static TourRooms closed(int rooms, String text) {
        TourRooms x = new TourRooms();
        x.start(0);
        x.town(1);
        for (int k = 0; k < rooms; k++) {
            x.person(false, 0, false, 0, 0, 5);
            x.room(0, 1, false, 10 * (k + 1));
            x.put(0, k, k);
        }
        Check.read(x, 0, text);
        check.due("NIGHT", x.night(), 0);
        return x;
    }

    private static void billOfRoomsButFreeOnes() {
        check.due("none free", closed(3, "").bill(0), 60);
        check.due("free 0", closed(3, "free 0;").bill(0), 60);
        check.due("free 1", closed(3, "free 1;").bill(0), 50);
        check.due("free 2", closed(3, "free 2;").bill(0), 30);
        check.due("all free", closed(3, "free 3;").bill(0), 0);
        check.due("more free than there are", closed(3, "free 4;").bill(0), 0);
        check.due("100 free", closed(10, "free 100;").bill(0), 0);
        check.due("9 of ten free", closed(10, "free 9;").bill(0), 100);
        check.due("10 of ten free", closed(10, "free 10;").bill(0), 0);
        check.due("the only one free", closed(1, "free 1;").bill(0), 0);
        check.due("the only one, and more free", closed(1, "free 100;").bill(0), 0);
        check.due("what is owed is not less", closed(3, "free 3;").owes(2), 30);
    }

    private static void billOfTheCheapest() {
        TourRooms x = new TourRooms();
        x.start(0);
        x.town(1);
        int[] prices = {50, 20, 5, 20, 70};
        for (int price : prices) {
            x.room(0, 1, false, price);
        }
        int[] rooms = {0, 1, 3, 4};
        for (int k = 0; k < 4; k++) {
            x.person(false, 0, false, 0, 0, 5);
            x.put(0, k, rooms[k]);
        }
        Check.read(x, 0, "free 1;");
        x.night();
        check.due("one of two alike, and not the empty one", x.bill(0), 140);
    }

    private static void owesOfNoneSuch() {
        for (int wrong : new int[] {-1, 8, 9, 10, Edge.LEAST, Edge.MOST}) {
            edge.thrown("owes of PERSON " + wrong, BUSY, x -> x.owes(wrong));
        }
        edge.told("owes of the first", BUSY, x -> x.owes(0), 30);
        edge.told("owes of the last, who is GONE", BUSY, x -> x.owes(7), 0);
        edge.told("owes of one who is not THERE yet", BUSY, x -> x.owes(6), 0);
        TourRooms x = Desk.over();
        x.gone(0);
        check.due("owes of one who is GONE since", x.owes(0), 60);
    }

    /** Two in one room of a price; a text, and which of them are absent. */
    private static TourRooms shared(int price, String text, int absent) {
        TourRooms x = Desk.people(2);
        x.start(0);
        x.town(1);
        x.room(0, 2, false, price);
        x.put(0, 1, 0);
        x.put(0, 0, 0);
        for (int k = 0; k < 2; k++) {
            x.absent(k, 0, (absent >> k & 1) != 0);
        }
        Check.read(x, 0, text);
        check.due("NIGHT", x.night(), 0);
        return x;
    }

    private static void owe(String what, TourRooms x, int first, int second) {
        check.due(what + ": 0 owes", x.owes(0), first);
        check.due(what + ": 1 owes", x.owes(1), second);
    }

    private static void owesHalfEach() {
        owe("PRICE 1", shared(1, "", 0), 1, 0);
        owe("PRICE 2", shared(2, "", 0), 1, 1);
        owe("PRICE 3", shared(3, "", 0), 2, 1);
        owe("PRICE 999", shared(999, "", 0), 500, 499);
        owe("PRICE 1000", shared(1000, "", 0), 500, 500);
        check.due("one in two BEDS owes all", Desk.over().owes(0), 60);
        TourRooms x = Desk.people(1);
        x.start(0);
        x.town(1);
        x.room(0, 2, false, 7);
        x.put(0, 0, 0);
        x.night();
        check.due("alone", x.owes(0), 7);
    }

    private static void owesLessWhereAbsent() {
        owe("refund 0", shared(999, "refund 0;", 3), 500, 499);
        owe("no refund", shared(999, "", 3), 500, 499);
        owe("refund 100", shared(999, "refund 100;", 3), 0, 0);
        owe("refund 100, one of them", shared(999, "refund 100;", 1), 0, 499);
        owe("refund 100, the other one", shared(999, "refund 100;", 2), 500, 0);
        owe("refund 100, nobody", shared(999, "refund 100;", 0), 500, 499);
        owe("refund 1 of 500 and of 499, cut", shared(999, "refund 1;", 3), 495, 495);
        owe("refund 99 of 1, cut", shared(2, "refund 99;", 3), 1, 1);
        owe("refund 50 of 2 and of 1, cut", shared(3, "refund 50;", 3), 1, 1);
        owe("refund 99 of 500", shared(1000, "refund 99;", 3), 5, 5);
    }

    private static void owesByWorthsAsTheNightIsClosed() {
        TourRooms x = Desk.people(1);
        x.start(0);
        x.town(3);
        x.room(0, 1, false, 100);
        x.put(0, 0, 0);
        x.day(2);
        for (int night = 0; night < 3; night++) {
            x.absent(0, night, true);
        }
        Check.read(x, 0, "refund 10 when season=1;refund 90 when left=0-2;");
        x.night();
        check.due("by LEFT -2", x.owes(0), 10);
        x.season(1);
        x.night();
        check.due("by SEASON", x.owes(0), 100);
        Check.read(x, 0, "");
        x.night();
        check.due("without a RULE", x.owes(0), 200);
    }

    private static void mealsOfNoneSuch() {
        for (int wrong : new int[] {-1, 3, 6, Edge.LEAST, Edge.MOST}) {
            edge.none("meals in TOWN " + wrong, BUSY, x -> x.meals(wrong, 0));
        }
        for (int wrong : new int[] {-1, 4, 5, Edge.LEAST, Edge.MOST}) {
            edge.none("meals of DIET " + wrong, BUSY, x -> x.meals(0, wrong));
        }
        int[] due = {2, 2, 1, 1};
        for (int diet = 0; diet < 4; diet++) {
            int d = diet;
            edge.told("meals of DIET " + d, BUSY, x -> x.meals(0, d), due[d]);
        }
    }

    private static void mealsOfThoseOnTheList() {
        edge.told("nobody on the LIST", () -> {
            TourRooms x = Desk.people(10);
            x.town(1);
            return x;
        }, x -> x.meals(0, 0), 0);
        TourRooms x = Desk.over();
        check.due("two of DIET 1", x.meals(0, 1), 2);
        x.gone(1);
        check.due("a LIST that is OVER stays", x.meals(0, 1), 2);
        check.due("the next LIST does not", x.meals(1, 1), 1);
        TourRooms y = Desk.people(10);
        y.town(1);
        for (int k = 0; k < 5; k++) {
            y.room(0, 2, false, 10);
        }
        y.settle(0, 0);
        check.due("all ten", y.meals(0, 0), 10);
    }
}
