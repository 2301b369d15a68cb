/** Promises 13 to 18: put, settle, moved, most, right, listed. */
public final class ListTest {
    private static final Check check = new Check();

    public static void main(String[] args) {
        put();
        putAgain();
        settleByCost();
        settleByMoves();
        settleTies();
        settleRefused();
        most();
        right();
        listed();
        check.end();
    }

    private static void put() {
        TourRooms x = new TourRooms();
        x.person(true, 0, false, 0, 0, 5);
        x.person(true, 0, true, 0, 0, 5);
        x.person(true, 1, false, 0, 0, 5);
        x.person(true, 0, false, 0, 1, 5);
        x.person(true, 0, false, 0, 0, 5);
        x.town(1);
        x.room(0, 2, false, 50);
        x.room(0, 2, true, 50);
        x.room(0, 1, true, 50);
        check.due("no town", x.put(1, 0, 0), false);
        check.due("no town -1", x.put(-1, 0, 0), false);
        check.due("no person", x.put(0, 5, 0), false);
        check.due("no person -1", x.put(0, -1, 0), false);
        check.due("no room 3", x.put(0, 0, 3), false);
        check.due("no room -2", x.put(0, 0, -2), false);
        check.due("not there", x.put(0, 3, 0), false);
        check.due("not there, none", x.put(0, 3, -1), false);
        check.due("needs a low one", x.put(0, 1, 0), false);
        check.due("has a low one", x.put(0, 1, 1), true);
        check.due("may not share", x.put(0, 2, 1), false);
        check.due("may share", x.put(0, 0, 1), true);
        check.due("no bed left", x.put(0, 4, 1), false);
        check.due("one bed", x.put(0, 4, 2), true);
        check.due("one bed is full", x.put(0, 0, 2), false);
        check.due("still where it was", x.roomOf(0, 1, 4), 3);
        check.due("goes over", x.put(0, 0, 0), true);
        check.due("left the old one", x.roomOf(0, 1, 4), 2);
        check.due("has the new one", x.roomOf(0, 0, 4), 1);
        check.due("none any more", x.put(0, 0, -1), true);
        check.due("given back", x.give(0, 0), 0);
        check.due("not held", x.put(0, 0, 0), false);
        check.due("notes", x.count(10), 5);
    }

    private static void putAgain() {
        TourRooms x = new TourRooms();
        x.person(true, 0, false, 0, 0, 5);
        x.person(true, 0, false, 0, 0, 5);
        x.town(1);
        x.room(0, 2, false, 50);
        check.due("none from none", x.put(0, 0, -1), true);
        check.due("no note of that", x.count(10), 0);
        x.put(0, 0, 0);
        x.put(0, 1, 0);
        check.due("where it is, in a full room", x.put(0, 0, 0), true);
        check.due("no note of that either", x.count(10), 2);
        x.bar(0, 1, true);
        check.due("where it is, but it may not share", x.put(0, 0, 0), false);
        x.start(0);
        x.bar(0, 1, false);
        x.night();
        check.due("over", x.put(0, 0, -1), false);
    }

    private static void settleByCost() {
        TourRooms x = sharers(3);
        x.town(1);
        x.room(0, 2, false, 100);
        x.room(0, 1, false, 40);
        x.room(0, 2, false, 30);
        x.room(0, 1, false, 45);
        check.due("least cost", x.settle(0, 0), 70);
        check.due("room 0", x.roomOf(0, 0, 4), 0);
        check.due("room 1, the least bits", x.roomOf(0, 1, 4), 1);
        check.due("room 2", x.roomOf(0, 2, 4), 6);
        check.due("nobody had a room", x.moved(), 0);
        check.due("cost of the list", x.townOf(0, 6), 70);
        x.put(0, 0, 3);
        check.due("of least cost with the fewest moved", x.settle(0, 0), 70);
        check.due("one moved", x.moved(), 1);
        check.due("back", x.roomOf(0, 1, 4), 1);
    }

    private static void settleByMoves() {
        TourRooms x = sharers(3);
        x.town(1);
        x.room(0, 2, false, 100);
        x.room(0, 1, false, 40);
        x.room(0, 2, false, 30);
        x.put(0, 0, 0);
        x.put(0, 2, 1);
        check.due("nobody moves", x.settle(0, 1), 140);
        check.due("moved", x.moved(), 0);
        check.due("who had none shares", x.roomOf(0, 0, 4), 3);
        check.due("least cost", x.settle(0, 0), 70);
        check.due("two moved", x.moved(), 2);
        x.bar(0, 1, true);
        check.due("they must part", x.settle(0, 1), 170);
        check.due("one moved", x.moved(), 1);
        check.due("the least bits in room 0", x.roomOf(0, 0, 4), 1);
        x.bar(0, 2, true);
        x.bar(1, 2, true);
        x.put(0, 2, -1);
        check.due("each alone", x.settle(0, 1), 170);
    }

    private static void settleTies() {
        TourRooms x = sharers(4);
        x.town(1);
        for (int room = 0; room < 4; room++) {
            x.room(0, 2, false, 10);
        }
        check.due("two rooms of four", x.settle(0, 0), 20);
        check.due("the first stays empty", x.roomOf(0, 0, 4), 0);
        check.due("the second too", x.roomOf(0, 1, 4), 0);
        check.due("the third has the least", x.roomOf(0, 2, 4), 3);
        check.due("the last the rest", x.roomOf(0, 3, 4), 12);
        x.bar(0, 1, true);
        x.put(0, 0, -1);
        x.put(0, 1, -1);
        x.put(0, 2, -1);
        x.put(0, 3, -1);
        check.due("beside a bar", x.settle(0, 0), 20);
        check.due("0 with 2", x.roomOf(0, 2, 4), 5);
        check.due("1 with 3", x.roomOf(0, 3, 4), 10);
    }

    private static void settleRefused() {
        TourRooms x = sharers(2);
        check.due("no town", x.settle(0, 0), -1);
        x.town(1);
        x.town(1);
        check.due("no room", x.settle(0, 0), -1);
        check.due("moved ahead of any", x.moved(), -1);
        x.room(0, 2, false, 10);
        check.due("how 2", x.settle(0, 2), -1);
        check.due("how -1", x.settle(0, -1), -1);
        check.due("town -1", x.settle(-1, 0), -1);
        check.due("moved still", x.moved(), -1);
        check.due("settled", x.settle(0, 1), 10);
        check.due("moved now", x.moved(), 0);
        x.start(0);
        x.night();
        check.due("over", x.settle(0, 0), -1);
        check.due("no right list", x.settle(1, 0), -1);
        check.due("moved as before", x.moved(), 0);
        x.gone(0);
        x.gone(1);
        check.due("nobody is there", x.settle(1, 0), 0);
    }

    private static void most() {
        TourRooms x = new TourRooms();
        x.person(true, 0, true, 0, 0, 5);
        x.person(true, 0, true, 0, 0, 5);
        x.person(true, 1, false, 0, 0, 5);
        x.person(false, 1, false, 0, 0, 0);
        check.due("no town", x.most(0), -1);
        x.town(1);
        x.town(1);
        check.due("no room", x.most(0), 0);
        x.room(0, 2, false, 10);
        check.due("no low room", x.most(0), 1);
        x.room(0, 1, true, 10);
        check.due("one low bed", x.most(0), 2);
        x.room(0, 2, true, 10);
        check.due("three low beds", x.most(0), 4);
        x.give(0, 0);
        check.due("given back", x.most(0), 3);
        check.due("another town", x.most(1), 0);
        check.due("no town -1", x.most(-1), -1);
        check.due("the list is as it was", x.count(10), 0);
    }

    private static void right() {
        TourRooms x = new TourRooms();
        check.due("no town", x.right(0), false);
        x.town(1);
        check.due("nobody there", x.right(0), true);
        check.due("no town -1", x.right(-1), false);
        x.person(true, 0, false, 0, 0, 5);
        x.person(true, 0, false, 0, 0, 5);
        x.room(0, 2, false, 10);
        check.due("no rooms", x.right(0), false);
        x.put(0, 0, 0);
        check.due("one has none", x.right(0), false);
        x.put(0, 1, 0);
        check.due("both have", x.right(0), true);
        x.person(true, 0, false, 0, 1, 5);
        check.due("one who is not there", x.right(0), true);
        x.friends(1, 2, true);
        check.due("one found a friend", x.right(0), false);
        x.friends(0, 1, true);
        x.friends(1, 2, false);
        x.friends(0, 1, true);
        check.due("they are friends", x.right(0), true);
        x.bar(0, 1, true);
        check.due("in spite of a bar", x.right(0), true);
    }

    private static void listed() {
        TourRooms x = sharers(1);
        x.town(5);
        x.room(0, 1, false, 10);
        x.room(0, 1, false, 10);
        x.day(3);
        x.put(0, 0, 0);
        x.put(0, 0, 1);
        x.day(2);
        x.put(0, 0, -1);
        x.day(4);
        x.put(0, 0, 0);
        int[] due = {-1, -1, -1, 1, 1, -1, -1, -1, -1, 0, -1};
        for (int day = 0; day < due.length; day++) {
            check.due("listed on day " + day, x.listed(0, 0, day), due[day]);
        }
        check.due("day -1", x.listed(0, 0, -1), -1);
        check.due("no town", x.listed(1, 0, 9), -1);
        check.due("no person", x.listed(0, 1, 9), -1);
        check.due("no person -1", x.listed(0, -1, 9), -1);
        check.due("no town -1", x.listed(-1, 0, 9), -1);
    }

    private static TourRooms sharers(int people) {
        TourRooms x = new TourRooms();
        for (int k = 0; k < people; k++) {
            x.person(true, 0, false, 0, 0, 5);
        }
        return x;
    }
}
