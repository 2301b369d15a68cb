/** The edges of promises 1 to 7: a new object, person, friends, bar, stays, gone, absent. */
public final class EdgePeopleTest {
    private static final Edge edge = new Edge();
    private static final Check check = edge.check;
    private static final int NONE = Edge.NONE;
    private static final Edge.Make BUSY = Desk::busy;
    private static final Edge.Make OVER = Desk::over;

    public static void main(String[] args) {
        aNewObjectHasNobody();
        aNewObjectHasNoTown();
        aNewObjectHasNoSight();
        aNewObjectHasItsNumbers();
        aNewTapeIsEmpty();
        aNewObjectKnowsNothingOfOthers();
        personOfAnotherSort();
        personOfAnotherDiet();
        personFromAndTo();
        personFromAboveTo();
        personsAreTen();
        friendsOfNoSuchTwo();
        friendsOfGoneOnes();
        friendsWithAnotherFriend();
        friendsThatChangeNothing();
        barOfNoSuchTwo();
        barOfTheSame();
        barThatChangesNothing();
        barOfGoneOnes();
        staysOfNoneSuch();
        staysOfGoneOnes();
        staysNotAsPerson();
        staysAtTheEndsOfTheTour();
        staysNeedsNotes();
        staysLeavesOverLists();
        goneOfNoneSuch();
        goneTwice();
        goneNeedsNotes();
        goneLeavesOverLists();
        goneIsNobodysFriend();
        absentOfNoneSuch();
        absentInNoNight();
        absentInAClosedNight();
        absentTwice();
        check.end();
    }

    private static void aNewObjectHasNobody() {
        Edge.Make make = TourRooms::new;
        edge.told("PEOPLE of a new object", make, x -> x.count(3), 0);
        edge.no("gone(0) of a new object", make, x -> x.gone(0));
        edge.no("stays(0, 0, 0) of a new object", make, x -> x.stays(0, 0, 0));
        edge.no("friends(0, 1) of a new object", make, x -> x.friends(0, 1, true));
        edge.no("bar(0, 1) of a new object", make, x -> x.bar(0, 1, true));
        edge.thrown("owes(0) of a new object", make, x -> x.owes(0));
        for (int what = 0; what <= 8; what++) {
            int w = what;
            edge.none("personOf(0, " + w + ") of a new object", make, x -> x.personOf(0, w));
        }
        edge.is("the first PERSON of a new object", make, x -> x.person(true, 0, false, 0, 0, 0), 0);
    }

    private static void aNewObjectHasNoTown() {
        Edge.Make make = TourRooms::new;
        edge.told("TOWNS of a new object", make, x -> x.count(4), 0);
        edge.told("NIGHTS of a new object", make, x -> x.count(5), 0);
        edge.told("closed NIGHTS of a new object", make, x -> x.count(6), 0);
        edge.told("SPENT of a new object", make, x -> x.count(7), 0);
        edge.told("notes of a new object", make, x -> x.count(10), 0);
        edge.none("moved() of a new object", make, TourRooms::moved);
        edge.none("night() of a new object", make, TourRooms::night);
        edge.none("room(0) of a new object", make, x -> x.room(0, 1, false, 1));
        edge.none("settle(0) of a new object", make, x -> x.settle(0, 0));
        edge.none("most(0) of a new object", make, x -> x.most(0));
        edge.no("right(0) of a new object", make, x -> x.right(0));
        edge.none("read(0) of a new object", make, x -> x.read(0));
        edge.none("worth(0, 0) of a new object", make, x -> x.worth(0, 0));
        edge.none("lay(0, 0) of a new object", make, x -> x.lay(0, 0));
        edge.thrown("bill(0) of a new object", make, x -> x.bill(0));
        edge.is("the first TOWN of a new object", make, x -> x.town(1), 0);
    }

    private static void aNewObjectHasNoSight() {
        Edge.Make make = TourRooms::new;
        edge.told("SIGHTS of a new object", make, x -> x.count(9), 0);
        edge.told("clear() of a new object", make, TourRooms::clear, 0);
        edge.no("way(0, 1) of a new object", make, x -> x.way(0, 1, 10));
        edge.none("tripOf(0) of a new object", make, x -> x.tripOf(0));
        edge.is("the first SIGHT of a new object", make, x -> x.sight(0, 100, 10), 1);
        TourRooms x = edge.is("trip(0) of a new object", make, y -> y.trip(0), 0);
        check.due("its end", x.tripOf(0), 0);
    }

    private static void aNewObjectHasItsNumbers() {
        Edge.Make make = TourRooms::new;
        edge.told("DAY of a new object", make, x -> x.count(0), 0);
        edge.told("START of a new object", make, x -> x.count(1), 30);
        edge.told("SEASON of a new object", make, x -> x.count(2), 0);
        TourRooms x = new TourRooms();
        x.town(1);
        x.day(29);
        check.due("night() a day ahead of START 30", x.night(), NONE);
        x.day(1);
        check.due("night() on START 30", x.night(), 0);
    }

    private static void aNewTapeIsEmpty() {
        edge.told("TAPE of a new object", TourRooms::new, x -> x.count(8), 0);
        edge.told("feed of nothing", TourRooms::new, x -> x.feed(0, 0, 0), 0);
        TourRooms x = new TourRooms();
        x.town(1);
        check.due("read of the empty TAPE", x.read(0), 0);
        check.due("no RULES by it", x.townOf(0, 8), 0);
    }

    private static void aNewObjectKnowsNothingOfOthers() {
        String look = Look.through(new TourRooms());
        Look.through(Desk.busy());
        String difference = Look.difference(Look.through(new TourRooms()), look);
        check.due("a new object beside a used one: " + difference, difference.isEmpty(), true);
    }

    private static void personOfAnotherSort() {
        for (int sort : new int[] {-1, 4, Edge.LEAST, Edge.MOST}) {
            edge.none("person of SORT " + sort, BUSY, x -> x.person(true, sort, false, 0, 0, 5));
        }
        for (int sort = 0; sort <= 3; sort++) {
            int s = sort;
            TourRooms x = edge.is("person of SORT " + s, BUSY, y -> y.person(true, s, false, 0, 0, 5), 8);
            check.due("SORT", x.personOf(8, 1), s);
        }
    }

    private static void personOfAnotherDiet() {
        for (int diet : new int[] {-1, 4, Edge.LEAST, Edge.MOST}) {
            edge.none("person of DIET " + diet, BUSY, x -> x.person(true, 0, false, diet, 0, 5));
        }
        for (int diet = 0; diet <= 3; diet++) {
            int d = diet;
            TourRooms x = edge.is("person of DIET " + d, BUSY, y -> y.person(true, 0, false, d, 0, 5), 8);
            check.due("DIET", x.personOf(8, 3), d);
        }
    }

    private static void personFromAndTo() {
        edge.none("person FROM -1", BUSY, x -> x.person(true, 0, false, 0, -1, 5));
        edge.none("person TO 6", BUSY, x -> x.person(true, 0, false, 0, 0, 6));
        edge.none("person FROM 6 TO 6", BUSY, x -> x.person(true, 0, false, 0, 6, 6));
        edge.none("person FROM -1 TO -1", BUSY, x -> x.person(true, 0, false, 0, -1, -1));
        edge.none("person FROM the least", BUSY, x -> x.person(true, 0, false, 0, Edge.LEAST, 5));
        edge.none("person TO the most", BUSY, x -> x.person(true, 0, false, 0, 0, Edge.MOST));
        TourRooms x = edge.is("person FROM 0 TO 5", BUSY, y -> y.person(true, 0, false, 0, 0, 5), 8);
        check.due("FROM", x.personOf(8, 4), 0);
        check.due("TO", x.personOf(8, 5), 5);
    }

    private static void personFromAboveTo() {
        for (int to = 0; to < 5; to++) {
            int t = to;
            edge.none("person FROM above TO " + t, BUSY, x -> x.person(true, 0, false, 0, t + 1, t));
        }
        for (int to = 0; to <= 5; to++) {
            int t = to;
            TourRooms x = edge.is("person FROM and TO " + t, BUSY, y -> y.person(true, 0, false, 0, t, t), 8);
            check.due("FROM", x.personOf(8, 4), t);
            check.due("TO", x.personOf(8, 5), t);
        }
    }

    private static void personsAreTen() {
        edge.is("a 10th PERSON", () -> Desk.people(9), x -> x.person(false, 1, true, 2, 3, 4), 9);
        edge.none("an 11th PERSON", () -> Desk.people(10), x -> x.person(false, 1, true, 2, 3, 4));
        Edge.Make oneGone = () -> {
            TourRooms x = Desk.people(10);
            x.gone(4);
            return x;
        };
        edge.none("an 11th PERSON, one being GONE", oneGone, x -> x.person(true, 0, false, 0, 0, 5));
    }

    private static void friendsOfNoSuchTwo() {
        for (int other : new int[] {-1, 8, 9, 10, 31, 32, Edge.LEAST, Edge.MOST}) {
            edge.no("friends with " + other, BUSY, x -> x.friends(2, other, true));
            edge.no("friends of " + other, BUSY, x -> x.friends(other, 2, true));
            edge.no("no more friends with " + other, BUSY, x -> x.friends(0, other, false));
        }
        edge.no("friends with oneself", BUSY, x -> x.friends(2, 2, true));
        edge.no("no more friends with oneself", BUSY, x -> x.friends(2, 2, false));
        edge.no("no more friends with oneself, who has one", BUSY, x -> x.friends(0, 0, false));
        TourRooms x = edge.yes("the first and the last", () -> Desk.people(10), y -> y.friends(0, 9, true));
        check.due("friend of 0", x.personOf(0, 7), 9);
        check.due("friend of 9", x.personOf(9, 7), 0);
    }

    private static void friendsOfGoneOnes() {
        edge.no("friends with a GONE one", BUSY, x -> x.friends(2, 7, true));
        edge.no("friends of a GONE one", BUSY, x -> x.friends(7, 2, true));
        edge.no("no more friends with a GONE one", BUSY, x -> x.friends(2, 7, false));
    }

    private static void friendsWithAnotherFriend() {
        edge.no("one has another FRIEND", BUSY, x -> x.friends(0, 2, true));
        edge.no("the other one has another FRIEND", BUSY, x -> x.friends(2, 1, true));
        Edge.Make twoPairs = () -> {
            TourRooms x = Desk.busy();
            x.friends(2, 3, true);
            return x;
        };
        edge.no("both have another FRIEND", twoPairs, x -> x.friends(1, 3, true));
        edge.no("no more, but they are not FRIENDS", twoPairs, x -> x.friends(1, 3, false));
        edge.no("no more, but one has another", BUSY, x -> x.friends(0, 2, false));
        edge.no("no more, but the other one has another", BUSY, x -> x.friends(2, 0, false));
        edge.yes("another pair", BUSY, x -> x.friends(2, 3, true));
    }

    private static void friendsThatChangeNothing() {
        edge.no("FRIENDS already", BUSY, x -> x.friends(0, 1, true));
        edge.no("FRIENDS already, told from the other side", BUSY, x -> x.friends(1, 0, true));
        edge.no("no FRIENDS already", BUSY, x -> x.friends(2, 3, false));
        edge.alike("FRIENDS and no more", BUSY, () -> {
            TourRooms x = Desk.busy();
            check.due("become", x.friends(2, 5, true), true);
            check.due("no more, told from the other side", x.friends(5, 2, false), true);
            return x;
        });
    }

    private static void barOfNoSuchTwo() {
        for (int other : new int[] {-1, 8, 9, 10, 31, 32, Edge.LEAST, Edge.MOST}) {
            for (boolean is : new boolean[] {true, false}) {
                edge.no("bar with " + other, BUSY, x -> x.bar(2, other, is));
                edge.no("bar of " + other, BUSY, x -> x.bar(other, 2, is));
            }
        }
        TourRooms x = edge.yes("the first and the last", () -> Desk.people(10), y -> y.bar(0, 9, true));
        check.due("sharers of 0", x.personOf(0, 8), 8);
        check.due("sharers of 9", x.personOf(9, 8), 8);
        check.due("sharers of 1", x.personOf(1, 8), 9);
    }

    private static void barOfTheSame() {
        for (int person = 0; person < Desk.PEOPLE; person++) {
            int p = person;
            edge.no("bar of " + p + " with itself", BUSY, x -> x.bar(p, p, true));
            edge.no("no bar of " + p + " with itself", BUSY, x -> x.bar(p, p, false));
        }
    }

    private static void barThatChangesNothing() {
        edge.no("a BAR already", BUSY, x -> x.bar(2, 3, true));
        edge.no("a BAR already, told from the other side", BUSY, x -> x.bar(3, 2, true));
        edge.no("no BAR already", BUSY, x -> x.bar(2, 4, false));
        edge.no("no BAR of FRIENDS already", BUSY, x -> x.bar(0, 1, false));
        edge.alike("a BAR and none again", BUSY, () -> {
            TourRooms x = Desk.busy();
            check.due("a BAR", x.bar(2, 4, true), true);
            check.due("none, told from the other side", x.bar(4, 2, false), true);
            return x;
        });
        edge.unlike("a BAR", BUSY, () -> {
            TourRooms x = Desk.busy();
            x.bar(2, 4, true);
            return x;
        });
    }

    private static void barOfGoneOnes() {
        edge.yes("a BAR with a GONE one", BUSY, x -> x.bar(2, 7, true));
        edge.no("no BAR with a GONE one already", BUSY, x -> x.bar(7, 2, false));
    }

    private static void staysOfNoneSuch() {
        for (int person : new int[] {-1, 8, 9, 10, Edge.LEAST, Edge.MOST}) {
            edge.no("stays of " + person, BUSY, x -> x.stays(person, 0, 5));
        }
        edge.yes("stays of the last", BUSY, x -> x.stays(6, 0, 5));
    }

    private static void staysOfGoneOnes() {
        edge.no("stays of a GONE one", BUSY, x -> x.stays(7, 0, 5));
        edge.no("stays of a GONE one elsewhere", BUSY, x -> x.stays(7, 2, 3));
    }

    private static void staysNotAsPerson() {
        edge.no("stays FROM -1", BUSY, x -> x.stays(2, -1, 5));
        edge.no("stays TO 6", BUSY, x -> x.stays(2, 0, 6));
        edge.no("stays FROM 6 TO 6", BUSY, x -> x.stays(2, 6, 6));
        edge.no("stays FROM -1 TO -1", BUSY, x -> x.stays(2, -1, -1));
        edge.no("stays FROM 1 TO 0", BUSY, x -> x.stays(2, 1, 0));
        edge.no("stays FROM 5 TO 4", BUSY, x -> x.stays(2, 5, 4));
        edge.no("stays FROM the least", BUSY, x -> x.stays(2, Edge.LEAST, 0));
        edge.no("stays TO the most", BUSY, x -> x.stays(2, 0, Edge.MOST));
    }

    private static void staysAtTheEndsOfTheTour() {
        TourRooms x = edge.yes("stays FROM 0 TO 0", BUSY, y -> y.stays(2, 0, 0));
        check.due("its ROOM in 0", x.listed(0, 2, 3), 1);
        check.due("none in 1", x.listed(1, 2, 3), NONE);
        check.due("a note", x.count(10), Desk.busy().count(10) + 1);
        TourRooms z = edge.yes("stays FROM 5 TO 5", BUSY, y -> y.stays(2, 5, 5));
        check.due("none in 0", z.listed(0, 2, 3), NONE);
        check.due("none in 1", z.listed(1, 2, 3), NONE);
        check.due("two notes", z.count(10), Desk.busy().count(10) + 2);
        TourRooms w = edge.yes("stays FROM 1 TO 1", BUSY, y -> y.stays(2, 1, 1));
        check.due("none in 0", w.listed(0, 2, 3), NONE);
        check.due("its ROOM in 1", w.listed(1, 2, 3), Desk.busy().listed(1, 2, 3));
        edge.told("stays as before", BUSY, y -> y.stays(2, 0, 5) ? 1 : 0, 1);
    }

    private static void staysNeedsNotes() {
        TourRooms x = edge.yes("two notes of two", () -> Desk.noted(498), y -> y.stays(1, 1, 4));
        check.due("notes", x.count(10), 500);
        edge.no("three notes of two", () -> Desk.noted(498), y -> y.stays(1, 0, 2));
        edge.no("a note of none", () -> Desk.noted(500), y -> y.stays(1, 0, 4));
        TourRooms z = edge.yes("no note of none", () -> Desk.noted(500), y -> y.stays(8, 0, 5));
        check.due("notes then", z.count(10), 500);
        TourRooms w = edge.yes("no note: it has no ROOM there", () -> Desk.noted(499), y -> y.stays(8, 0, 4));
        check.due("notes as before", w.count(10), 499);
    }

    private static void staysLeavesOverLists() {
        TourRooms x = edge.yes("stays elsewhere", OVER, y -> y.stays(2, 2, 5));
        check.due("on the LIST that is OVER", x.roomOf(0, 1, 4), 4 + 16);
        check.due("off the next LIST", x.listed(1, 2, 4), NONE);
        check.due("one note", x.count(10), Desk.over().count(10) + 1);
        // night 0 is closed, but town 0 is not over
        TourRooms z = edge.yes("stays elsewhere between two NIGHTS", BUSY, y -> y.stays(2, 2, 5));
        check.due("off the LIST", z.roomOf(0, 1, 4), 16);
    }

    private static void goneOfNoneSuch() {
        for (int person : new int[] {-1, 8, 9, 10, Edge.LEAST, Edge.MOST}) {
            edge.no("gone of " + person, BUSY, x -> x.gone(person));
        }
        edge.yes("gone of the last", () -> Desk.people(10), x -> x.gone(9));
    }

    private static void goneTwice() {
        edge.no("GONE already", BUSY, x -> x.gone(7));
        edge.no("GONE just now", () -> {
            TourRooms x = Desk.busy();
            check.due("gone", x.gone(0), true);
            return x;
        }, x -> x.gone(0));
    }

    private static void goneNeedsNotes() {
        TourRooms x = edge.yes("six notes of six", () -> Desk.noted(494), y -> y.gone(1));
        check.due("notes", x.count(10), 500);
        edge.no("six notes of five", () -> {
            TourRooms y = Desk.noted(495);
            y.friends(1, 2, true);
            return y;
        }, y -> y.gone(1));
        edge.no("six notes of none", () -> Desk.noted(500), y -> y.gone(8));
        TourRooms z = edge.yes("five notes of five", () -> Desk.noted(495), y -> y.gone(8));
        check.due("notes then", z.count(10), 500);
    }

    private static void goneLeavesOverLists() {
        TourRooms x = edge.yes("gone", OVER, y -> y.gone(2));
        check.due("on the LIST that is OVER", x.roomOf(0, 1, 4), 4 + 16);
        check.due("off the next LIST", x.listed(1, 2, 4), NONE);
        check.due("it lay there", x.lay(1, 2), 1);
        check.due("it owes", x.owes(2), Desk.over().owes(2));
        TourRooms z = edge.yes("gone between two NIGHTS", BUSY, y -> y.gone(2));
        check.due("off the LIST", z.roomOf(0, 1, 4), 16);
    }

    private static void goneIsNobodysFriend() {
        TourRooms x = edge.yes("gone", BUSY, y -> y.gone(0));
        check.due("its FRIEND", x.personOf(0, 7), NONE);
        check.due("FRIEND of the one that is left", x.personOf(1, 7), NONE);
        check.due("who can find another", x.friends(1, 2, true), true);
    }

    private static void absentOfNoneSuch() {
        for (int person : new int[] {-1, 8, 9, 10, Edge.LEAST, Edge.MOST}) {
            edge.no("absent of " + person, BUSY, x -> x.absent(person, 3, true));
        }
        edge.yes("absent of the last", () -> {
            TourRooms x = Desk.people(10);
            x.town(1);
            return x;
        }, x -> x.absent(9, 0, true));
    }

    private static void absentInNoNight() {
        for (int night : new int[] {-1, 6, 7, 32, 33, Edge.LEAST, Edge.MOST}) {
            edge.no("absent in NIGHT " + night, BUSY, x -> x.absent(5, night, true));
            edge.no("not absent in NIGHT " + night, BUSY, x -> x.absent(2, night, false));
        }
        edge.no("absent where there is no NIGHT", () -> Desk.people(1), x -> x.absent(0, 0, true));
        edge.unlike("absent in the last NIGHT", BUSY, () -> edge.yes("absent", BUSY, x -> x.absent(5, 5, true)));
        Edge.Make thirty = () -> {
            TourRooms x = Desk.people(1);
            for (int town = 0; town < 6; town++) {
                x.town(5);
            }
            return x;
        };
        edge.yes("absent in NIGHT 29", thirty, x -> x.absent(0, 29, true));
        edge.no("absent in NIGHT 30", thirty, x -> x.absent(0, 30, true));
    }

    private static void absentInAClosedNight() {
        edge.no("absent in a closed NIGHT", BUSY, x -> x.absent(5, 0, true));
        edge.no("not absent in a closed NIGHT", BUSY, x -> x.absent(4, 0, false));
        edge.unlike("absent in the next NIGHT", BUSY, () -> edge.yes("absent", BUSY, x -> x.absent(5, 1, true)));
        edge.unlike("not absent in it", BUSY, () -> edge.yes("not absent", BUSY, x -> x.absent(2, 1, false)));
        edge.no("absent in the last that is closed", OVER, x -> x.absent(5, 1, true));
    }

    private static void absentTwice() {
        edge.told("absent already", BUSY, x -> x.absent(2, 1, true) ? 1 : 0, 1);
        edge.told("not absent already", BUSY, x -> x.absent(5, 1, false) ? 1 : 0, 1);
        edge.alike("absent and not again", BUSY, () -> {
            TourRooms x = Desk.busy();
            x.absent(5, 1, true);
            x.absent(5, 1, false);
            return x;
        });
    }
}
