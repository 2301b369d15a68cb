/** Promises 1 to 7: a new object, person, friends, bar, stays, gone, absent. */
public final class PeopleTest {
    private static final Check check = new Check();

    public static void main(String[] args) {
        aNewObject();
        person();
        friends();
        friendsShare();
        bar();
        stays();
        gone();
        overListsStay();
        absent();
        check.end();
    }

    private static void aNewObject() {
        TourRooms x = new TourRooms();
        int[] due = {0, 30, 0, 0, 0, 0, 0, 0, 0, 0, 0, -1};
        for (int what = 0; what < due.length; what++) {
            check.due("count(" + what + ") of a new object", x.count(what), due[what]);
        }
        check.due("moved() of a new object", x.moved(), -1);
        check.due("tripOf(0) of a new object", x.tripOf(0), -1);
        check.due("night() of a new object", x.night(), -1);
        check.due("personOf(0, 0) of a new object", x.personOf(0, 0), -1);
        check.due("townOf(0, 0) of a new object", x.townOf(0, 0), -1);
    }

    private static void person() {
        TourRooms x = new TourRooms();
        check.due("sort -1", x.person(true, -1, false, 0, 0, 5), -1);
        check.due("sort 4", x.person(true, 4, false, 0, 0, 5), -1);
        check.due("diet -1", x.person(true, 0, false, -1, 0, 5), -1);
        check.due("diet 4", x.person(true, 0, false, 4, 0, 5), -1);
        check.due("from -1", x.person(true, 0, false, 0, -1, 5), -1);
        check.due("to 6", x.person(true, 0, false, 0, 0, 6), -1);
        check.due("from above to", x.person(true, 0, false, 0, 3, 2), -1);
        check.due("count(3)", x.count(3), 0);
        check.due("person 0", x.person(true, 3, false, 2, 1, 4), 0);
        check.due("person 1", x.person(false, 0, true, 3, 5, 5), 1);
        int[] first = {1, 3, 0, 2, 1, 4, 0, -1, 0};
        int[] second = {0, 0, 1, 3, 5, 5, 0, -1, 0};
        for (int what = 0; what < 9; what++) {
            check.due("personOf(0, " + what + ")", x.personOf(0, what), first[what]);
            check.due("personOf(1, " + what + ")", x.personOf(1, what), second[what]);
        }
        for (int number = 2; number < 10; number++) {
            check.due("person " + number, x.person(true, 0, false, 0, 0, 0), number);
        }
        check.due("an 11th", x.person(true, 0, false, 0, 0, 0), -1);
        x.gone(3);
        check.due("an 11th beside a gone one", x.person(true, 0, false, 0, 0, 0), -1);
        check.due("count(3) of ten", x.count(3), 10);
    }

    private static void friends() {
        TourRooms x = withPeople(4);
        check.due("no such", x.friends(0, 4, true), false);
        check.due("no such -1", x.friends(-1, 0, true), false);
        check.due("oneself", x.friends(1, 1, true), false);
        check.due("not yet to end", x.friends(0, 1, false), false);
        check.due("become", x.friends(0, 1, true), true);
        check.due("again", x.friends(1, 0, true), false);
        check.due("has another", x.friends(2, 1, true), false);
        check.due("has another too", x.friends(0, 2, true), false);
        check.due("not these", x.friends(0, 2, false), false);
        check.due("friend of 0", x.personOf(0, 7), 1);
        check.due("friend of 1", x.personOf(1, 7), 0);
        check.due("no more", x.friends(1, 0, false), true);
        check.due("friend of 0 then", x.personOf(0, 7), -1);
        check.due("friend of 1 then", x.personOf(1, 7), -1);
        x.gone(3);
        check.due("a gone one", x.friends(0, 3, true), false);
        check.due("a gone one first", x.friends(3, 0, true), false);
    }

    /** Who may share: friends whatever else they are, or sharers of one sort without friend or bar. */
    private static void friendsShare() {
        TourRooms x = new TourRooms();
        x.person(true, 1, false, 0, 0, 5);
        x.person(true, 1, false, 0, 0, 5);
        x.person(false, 1, false, 0, 0, 5);
        x.person(true, 2, false, 0, 0, 5);
        check.due("sharers of 0", x.personOf(0, 8), 1);
        check.due("sharers of 2", x.personOf(2, 8), 0);
        check.due("sharers of 3", x.personOf(3, 8), 0);
        x.bar(2, 3, true);
        x.friends(2, 3, true);
        check.due("friends share in spite of a bar", x.personOf(2, 8), 1);
        x.friends(2, 3, false);
        check.due("a bar among those who don't share", x.personOf(2, 8), 0);
        x.friends(1, 3, true);
        check.due("who has a friend shares with it alone", x.personOf(1, 8), 1);
        check.due("its other one shares with nobody", x.personOf(0, 8), 0);
        x.friends(1, 3, false);
        x.bar(1, 0, true);
        check.due("a bar", x.personOf(0, 8), 0);
        x.bar(0, 1, false);
        x.gone(1);
        check.due("the gone don't count", x.personOf(0, 8), 0);
        check.due("but may share", x.personOf(1, 8), 1);
    }

    private static void bar() {
        TourRooms x = withPeople(3);
        check.due("no such", x.bar(0, 3, true), false);
        check.due("no such -1", x.bar(-1, 0, true), false);
        check.due("the same", x.bar(2, 2, true), false);
        check.due("none to take away", x.bar(0, 1, false), false);
        check.due("a bar", x.bar(0, 1, true), true);
        check.due("the same bar", x.bar(1, 0, true), false);
        check.due("sharers of 0", x.personOf(0, 8), 1);
        check.due("sharers of 1", x.personOf(1, 8), 1);
        check.due("sharers of 2", x.personOf(2, 8), 2);
        check.due("no bar", x.bar(1, 0, false), true);
        check.due("sharers of 0 then", x.personOf(0, 8), 2);
        x.gone(2);
        check.due("a bar with a gone one", x.bar(2, 0, true), true);
    }

    private static void stays() {
        TourRooms x = withPeople(2);
        for (int town = 0; town < 3; town++) {
            x.town(1);
            x.room(town, 2, false, 50);
            x.put(town, 0, 0);
            x.put(town, 1, 0);
        }
        check.due("notes", x.count(10), 6);
        check.due("no such", x.stays(2, 0, 0), false);
        check.due("from above to", x.stays(0, 2, 1), false);
        check.due("from -1", x.stays(0, -1, 1), false);
        check.due("to 6", x.stays(0, 0, 6), false);
        check.due("notes then", x.count(10), 6);
        check.due("one town", x.stays(0, 1, 1), true);
        check.due("from", x.personOf(0, 4), 1);
        check.due("to", x.personOf(0, 5), 1);
        check.due("notes of two", x.count(10), 8);
        check.due("not there in 0", x.listed(0, 0, 0), -1);
        check.due("there in 1", x.listed(1, 0, 0), 0);
        check.due("not there in 2", x.listed(2, 0, 0), -1);
        check.due("the other one is", x.roomOf(0, 0, 4), 2);
        check.due("as before", x.stays(0, 1, 1), true);
        check.due("notes as before", x.count(10), 8);
        check.due("can't be put where it is not", x.put(0, 0, 0), false);
        x.gone(1);
        check.due("a gone one", x.stays(1, 0, 5), false);
    }

    private static void gone() {
        TourRooms x = withPeople(3);
        for (int town = 0; town < 2; town++) {
            x.town(1);
            x.room(town, 2, false, 50);
            x.put(town, 0, 0);
        }
        x.friends(0, 1, true);
        check.due("no such", x.gone(3), false);
        check.due("no such -1", x.gone(-1), false);
        check.due("gone", x.gone(0), true);
        check.due("it is", x.gone(0), false);
        check.due("told", x.personOf(0, 6), 1);
        check.due("no friend", x.personOf(0, 7), -1);
        check.due("nobody's friend", x.personOf(1, 7), -1);
        check.due("no room in 0", x.roomOf(0, 0, 4), 0);
        check.due("no room in 1", x.roomOf(1, 0, 4), 0);
        check.due("notes", x.count(10), 4);
        check.due("not to be put", x.put(0, 0, 0), false);
        check.due("who was left can find another", x.friends(1, 2, true), true);
    }

    private static void overListsStay() {
        TourRooms x = withPeople(2);
        x.start(0);
        x.town(1);
        x.town(1);
        for (int town = 0; town < 2; town++) {
            x.room(town, 2, false, 50);
            x.put(town, 0, 0);
            x.put(town, 1, 0);
        }
        check.due("the night", x.night(), 0);
        check.due("stays elsewhere", x.stays(0, 2, 2), true);
        check.due("on the list that is over", x.roomOf(0, 0, 4), 3);
        check.due("off the next", x.roomOf(1, 0, 4), 2);
        check.due("gone", x.gone(1), true);
        check.due("on the list that is over still", x.roomOf(0, 0, 4), 3);
        check.due("off the next too", x.roomOf(1, 0, 4), 0);
        check.due("notes", x.count(10), 6);
        check.due("who lay there may still share", x.right(0), true);
        x.bar(0, 1, true);
        check.due("or not", x.right(0), false);
        check.due("a new one is there", x.person(true, 0, false, 0, 0, 0), 2);
        x.bar(0, 1, false);
        check.due("and has no room", x.right(0), false);
    }

    private static void absent() {
        TourRooms x = withPeople(1);
        check.due("no night", x.absent(0, 0, true), false);
        x.start(0);
        x.town(2);
        x.room(0, 1, false, 50);
        x.put(0, 0, 0);
        check.due("night -1", x.absent(0, -1, true), false);
        check.due("night 2", x.absent(0, 2, true), false);
        check.due("no such", x.absent(1, 0, true), false);
        check.due("absent", x.absent(0, 0, true), true);
        check.due("absent again", x.absent(0, 0, true), true);
        Check.read(x, 0, "refund 100;");
        x.night();
        check.due("owes nothing", x.owes(0), 0);
        check.due("closed", x.absent(0, 0, false), false);
        check.due("next", x.absent(0, 1, true), true);
        check.due("not absent", x.absent(0, 1, false), true);
        x.day(1);
        x.night();
        check.due("owes it all", x.owes(0), 50);
        x.gone(0);
        check.due("over", x.absent(0, 1, true), false);
    }

    private static TourRooms withPeople(int people) {
        TourRooms x = new TourRooms();
        for (int k = 0; k < people; k++) {
            x.person(true, 0, false, 0, 0, 5);
        }
        return x;
    }
}
