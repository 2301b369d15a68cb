/** The edges of promises 13 to 18: put, settle, moved, most, right, listed. */
public final class EdgeListTest {
    private static final Edge edge = new Edge();
    private static final Check check = edge.check;
    private static final int NONE = Edge.NONE;
    private static final Edge.Make BUSY = Desk::busy;
    private static final Edge.Make OVER = Desk::over;

    public static void main(String[] args) {
        putOfNoneSuch();
        putWhereItIsOver();
        putWhereItIsNotThere();
        putAtTheEndsOfAStay();
        putInARoomNotHeld();
        putWhereNoBedIsLeft();
        putWithOneWhoMayNotShare();
        putWhereLowIsNeeded();
        putOfNoRoom();
        putNeedsANote();
        settleOfNoneSuch();
        settleWhereItIsOver();
        settleWithoutARightList();
        settleWithJustEnough();
        settleMovesAll();
        settleOfNobody();
        settleLeavesOutWhoIsNotThere();
        settleNeedsNotes();
        movedBehindRefusals();
        mostOfNoSuchTown();
        mostOfNobodyAndOfNoRoom();
        mostBetweenNoneAndAll();
        rightOfNoneSuch();
        rightByEachOfItsRules();
        listedOfNoneSuch();
        listedOnDays();
        listedAtTheEndOfADay();
        check.end();
    }

    private static void putOfNoneSuch() {
        for (int wrong : new int[] {-1, 3, 6, Edge.LEAST, Edge.MOST}) {
            edge.no("put in TOWN " + wrong, BUSY, x -> x.put(wrong, 0, 0));
            edge.no("put of nothing in TOWN " + wrong, BUSY, x -> x.put(wrong, 0, NONE));
        }
        for (int wrong : new int[] {-1, 8, 10, Edge.LEAST, Edge.MOST}) {
            edge.no("put of PERSON " + wrong, BUSY, x -> x.put(0, wrong, 3));
            edge.no("put of PERSON " + wrong + " nowhere", BUSY, x -> x.put(0, wrong, NONE));
        }
        for (int wrong : new int[] {-2, 6, 9, 10, Edge.LEAST, Edge.MOST}) {
            edge.no("put in ROOM " + wrong, BUSY, x -> x.put(0, 0, wrong));
        }
        TourRooms x = edge.yes("put in the last ROOM", BUSY, y -> y.put(0, 0, 5));
        check.due("who is in it", x.roomOf(0, 5, 4), 1);
        check.due("who is left", x.roomOf(0, 0, 4), 2);
    }

    private static void putWhereItIsOver() {
        edge.no("put in another ROOM", OVER, x -> x.put(0, 0, 3));
        edge.no("put nowhere", OVER, x -> x.put(0, 0, NONE));
        edge.no("put where it is", OVER, x -> x.put(0, 0, 0));
        edge.yes("put between two NIGHTS", BUSY, x -> x.put(0, 0, 3));
        edge.yes("put in the next TOWN", OVER, x -> x.put(1, 0, NONE));
    }

    private static void putWhereItIsNotThere() {
        edge.no("ahead of FROM", BUSY, x -> x.put(0, 6, 3));
        edge.no("nowhere ahead of FROM", BUSY, x -> x.put(0, 6, NONE));
        edge.no("GONE", BUSY, x -> x.put(0, 7, 3));
        edge.no("GONE, nowhere", BUSY, x -> x.put(0, 7, NONE));
        Edge.Make shorter = () -> {
            TourRooms x = Desk.busy();
            x.stays(5, 0, 1);
            return x;
        };
        edge.no("behind TO", shorter, x -> x.put(2, 5, 1));
        edge.no("nowhere behind TO", shorter, x -> x.put(2, 5, NONE));
    }

    private static void putAtTheEndsOfAStay() {
        edge.yes("at FROM", BUSY, x -> x.put(1, 6, NONE));
        edge.yes("at TO", BUSY, x -> x.put(2, 6, 1));
        edge.yes("at TO and FROM", () -> {
            TourRooms x = Desk.busy();
            x.stays(6, 2, 2);
            return x;
        }, x -> x.put(2, 6, 1));
    }

    private static void putInARoomNotHeld() {
        edge.no("GIVEN BACK", BUSY, x -> x.put(0, 0, 4));
        edge.yes("BOUGHT BACK", () -> {
            TourRooms x = Desk.busy();
            x.buy(0, 4);
            return x;
        }, x -> x.put(0, 0, 4));
    }

    private static void putWhereNoBedIsLeft() {
        // 2, 4 and 5 may all share with one another
        edge.no("a third one in two BEDS", BUSY, x -> x.put(0, 5, 1));
        Edge.Make alone = () -> {
            TourRooms x = Desk.busy();
            x.put(0, 2, 3);
            return x;
        };
        edge.no("a second one in one BED", alone, x -> x.put(0, 5, 3));
        TourRooms x = edge.yes("a second one in two BEDS", alone, y -> y.put(0, 5, 1));
        check.due("who is in it", x.roomOf(0, 1, 4), 16 + 32);
        edge.told("where it is, in two BEDS", BUSY, y -> y.put(0, 4, 1) ? 1 : 0, 1);
        edge.told("where it is, in one BED", alone, y -> y.put(0, 2, 3) ? 1 : 0, 1);
    }

    /** Of ten each pair that differs in one thing from two who may share. */
    private static void putWithOneWhoMayNotShare() {
        Edge.Make make = () -> {
            TourRooms x = new TourRooms();
            x.person(true, 1, false, 0, 0, 5);
            x.person(true, 1, false, 0, 0, 5);
            x.person(false, 1, false, 0, 0, 5);
            x.person(true, 2, false, 0, 0, 5);
            x.person(true, 1, false, 0, 0, 5);
            x.person(true, 1, false, 0, 0, 5);
            x.person(false, 3, false, 0, 0, 5);
            x.bar(0, 4, true);
            x.friends(5, 6, true);
            x.town(1);
            x.room(0, 2, false, 10);
            x.put(0, 0, 0);
            return x;
        };
        edge.yes("both SHARE, of one SORT", make, x -> x.put(0, 1, 0));
        edge.no("one does not SHARE", make, x -> x.put(0, 2, 0));
        edge.no("another SORT", make, x -> x.put(0, 3, 0));
        edge.no("a BAR", make, x -> x.put(0, 4, 0));
        edge.no("one has a FRIEND", make, x -> x.put(0, 5, 0));
        Edge.Make friend = () -> {
            TourRooms x = make.make();
            x.put(0, 0, NONE);
            x.put(0, 5, 0);
            return x;
        };
        edge.no("the one in it has a FRIEND", friend, x -> x.put(0, 0, 0));
        edge.yes("its FRIEND, who does not SHARE, of another SORT", friend, x -> x.put(0, 6, 0));
        edge.yes("its FRIEND beside a BAR", () -> {
            TourRooms x = friend.make();
            x.bar(5, 6, true);
            return x;
        }, x -> x.put(0, 6, 0));
        edge.no("where it is, with one who may not SHARE any more", () -> {
            TourRooms x = make.make();
            x.put(0, 1, 0);
            x.bar(0, 1, true);
            return x;
        }, x -> x.put(0, 1, 0));
    }

    private static void putWhereLowIsNeeded() {
        edge.no("LOW is needed", BUSY, x -> x.put(0, 4, 3));
        edge.yes("a LOW one", BUSY, x -> x.put(0, 4, 5));
        edge.yes("a LOW one for who needs none", BUSY, x -> x.put(0, 0, 5));
    }

    private static void putOfNoRoom() {
        TourRooms x = edge.yes("none any more", BUSY, y -> y.put(0, 0, NONE));
        check.due("its ROOM", x.listed(0, 0, 3), NONE);
        check.due("a note", x.count(10), Desk.busy().count(10) + 1);
        edge.told("none from none", () -> {
            TourRooms y = Desk.busy();
            y.put(0, 0, NONE);
            return y;
        }, y -> y.put(0, 0, NONE) ? 1 : 0, 1);
    }

    private static void putNeedsANote() {
        TourRooms x = edge.yes("the 500th note", () -> Desk.noted(499), y -> y.put(0, 8, NONE));
        check.due("notes", x.count(10), 500);
        edge.no("a 501st note", () -> Desk.noted(500), y -> y.put(0, 8, NONE));
        TourRooms full = Desk.noted(500);
        int room = full.listed(0, 8, 0);
        edge.no("a 501st note for another ROOM", () -> Desk.noted(500), y -> y.put(0, 8, (room + 1) % 5));
        edge.told("no note for where it is", () -> Desk.noted(500), y -> y.put(0, 8, room) ? 1 : 0, 1);
    }

    private static void settleOfNoneSuch() {
        for (int wrong : new int[] {-1, 3, 6, Edge.LEAST, Edge.MOST}) {
            edge.none("settle of TOWN " + wrong, BUSY, x -> x.settle(wrong, 0));
        }
        for (int wrong : new int[] {-1, 2, 3, Edge.LEAST, Edge.MOST}) {
            edge.none("settle, how " + wrong, BUSY, x -> x.settle(0, wrong));
        }
        // two who are FRIENDS for 60, a pair for 70, one alone for 40, who needs LOW for 35
        TourRooms x = edge.is("settle, how 0", BUSY, y -> y.settle(0, 0), 205);
        check.due("MOVED by COST", x.moved(), 2);
        TourRooms z = edge.is("settle, how 1", BUSY, y -> y.settle(0, 1), 210);
        check.due("MOVED by MOVED", z.moved(), 0);
    }

    private static void settleWhereItIsOver() {
        edge.none("settle by COST where it is OVER", OVER, x -> x.settle(0, 0));
        edge.none("settle by MOVED where it is OVER", OVER, x -> x.settle(0, 1));
        edge.is("settle of the next TOWN", OVER, x -> x.settle(1, 0), 235);
    }

    private static void settleWithoutARightList() {
        Edge.Make narrow = () -> narrow(false);
        edge.none("one BED too few, by COST", narrow, x -> x.settle(0, 0));
        edge.none("one BED too few, by MOVED", narrow, x -> x.settle(0, 1));
        edge.none("no LOW one", () -> {
            TourRooms x = narrow(true);
            x.person(true, 0, true, 0, 0, 5);
            return x;
        }, x -> x.settle(0, 0));
        edge.none("a BAR between the last two", () -> {
            TourRooms x = narrow(true);
            x.bar(0, 1, true);
            x.bar(0, 2, true);
            x.bar(1, 2, true);
            return x;
        }, x -> x.settle(0, 0));
        edge.none("the ROOM is GIVEN BACK", () -> {
            TourRooms x = narrow(true);
            x.put(0, 0, NONE);
            x.put(0, 1, NONE);
            x.give(0, 0);
            return x;
        }, x -> x.settle(0, 0));
        edge.none("no ROOM at all", () -> {
            TourRooms x = Desk.people(1);
            x.town(1);
            return x;
        }, x -> x.settle(0, 0));
    }

    /** Three who may share; two of them in a room of two beds, and a bed more for the third, or none. */
    private static TourRooms narrow(boolean enough) {
        TourRooms x = Desk.people(3);
        x.town(1);
        x.room(0, 2, false, 30);
        if (enough) {
            x.room(0, 1, false, 20);
        }
        x.put(0, 0, 0);
        x.put(0, 1, 0);
        return x;
    }

    private static void settleWithJustEnough() {
        TourRooms x = edge.is("just enough BEDS", () -> narrow(true), y -> y.settle(0, 1), 50);
        check.due("who was there", x.roomOf(0, 0, 4), 3);
        check.due("who came", x.roomOf(0, 1, 4), 4);
        check.due("RIGHT", x.right(0), true);
        for (int how = 0; how <= 1; how++) {
            int h = how;
            TourRooms z = edge.is("ten ROOMS of 1000", EdgeListTest::tenAlone, y -> y.settle(0, h), 10000);
            for (int k = 0; k < 10; k++) {
                check.due("who is in ROOM " + k, z.roomOf(0, k, 4), 1 << k);
            }
        }
    }

    /** Ten who need a low room each, and ten rooms of 1000. */
    private static TourRooms tenAlone() {
        TourRooms x = new TourRooms();
        x.town(1);
        for (int k = 0; k < 10; k++) {
            x.person(false, 0, true, 0, 0, 0);
            x.room(0, 1, true, 1000);
        }
        return x;
    }

    /** Ten in dear rooms, and as many cheap ones: all of them move, or none; then one by itself. */
    private static void settleMovesAll() {
        TourRooms x = Desk.people(10);
        x.town(1);
        for (int k = 0; k < 5; k++) {
            x.room(0, 2, false, 999);
        }
        check.due("settled", x.settle(0, 0), 4995);
        for (int k = 0; k < 5; k++) {
            x.room(0, 2, false, 3);
        }
        check.due("by MOVED", x.settle(0, 1), 4995);
        check.due("none of ten MOVED", x.moved(), 0);
        check.due("by COST", x.settle(0, 0), 15);
        check.due("all ten MOVED", x.moved(), 10);
        check.due("notes", x.count(10), 20);
        check.due("one in a dear ROOM", x.put(0, 0, 0), true);
        check.due("by COST again", x.settle(0, 0), 15);
        check.due("one MOVED", x.moved(), 1);
        // who shares with 0 now must part from it: one of them moves, into an empty ROOM that is cheap or dear
        for (int k = 1; k < 10; k++) {
            x.bar(0, k, true);
        }
        check.due("no cheap ROOM is left", x.settle(0, 1), 15 + 999);
        check.due("one MOVED by MOVED", x.moved(), 1);
    }

    private static void settleLeavesOutWhoIsNotThere() {
        TourRooms x = Desk.people(2);
        x.stays(0, 0, 0);
        x.town(1);
        x.town(1);
        for (int town = 0; town < 2; town++) {
            x.room(town, 2, false, 10);
        }
        check.due("both", x.settle(0, 0), 10);
        check.due("one", x.settle(1, 0), 10);
        check.due("who is in it", x.roomOf(1, 0, 4), 2);
        check.due("notes", x.count(10), 3);
        check.due("RIGHT", x.right(1), true);
    }

    private static void settleOfNobody() {
        TourRooms x = edge.is("nobody and no ROOM", () -> {
            TourRooms y = new TourRooms();
            y.town(1);
            return y;
        }, y -> y.settle(0, 0), 0);
        check.due("none MOVED", x.moved(), 0);
        edge.is("nobody THERE", () -> {
            TourRooms y = narrow(true);
            for (int k = 0; k < 3; k++) {
                y.stays(k, 1, 5);
            }
            return y;
        }, y -> y.settle(0, 1), 0);
    }

    private static void settleNeedsNotes() {
        // person 8 has no room in town 5 where the notes are odd
        TourRooms x = edge.is("a note of one", () -> Desk.noted(499), y -> y.settle(5, 0), 50);
        check.due("notes", x.count(10), 500);
        Edge.Make full = () -> {
            TourRooms y = Desk.noted(499);
            y.put(0, 8, NONE);
            return y;
        };
        edge.none("a note of none, by COST", full, y -> y.settle(5, 0));
        edge.none("a note of none, by MOVED", full, y -> y.settle(5, 1));
        TourRooms z = edge.is("no note of none", full, y -> y.settle(1, 0), 50);
        check.due("notes then", z.count(10), 500);
        Edge.Make two = () -> {
            TourRooms y = Desk.noted(497);
            y.put(5, 7, NONE);
            return y;
        };
        edge.is("two notes of two", two, y -> y.settle(5, 0), 50);
        edge.none("a note of none, for the first PERSON", () -> {
            TourRooms y = Desk.noted(499);
            y.put(5, 0, NONE);
            y.stays(8, 0, 4);
            return y;
        }, y -> y.settle(5, 0));
        edge.none("two notes of one", () -> {
            TourRooms y = two.make();
            y.put(0, 8, NONE);
            return y;
        }, y -> y.settle(5, 0));
    }

    private static void movedBehindRefusals() {
        TourRooms x = narrow(false);
        check.due("ahead of any", x.moved(), NONE);
        x.settle(0, 0);
        check.due("behind a refused one", x.moved(), NONE);
        x.room(0, 1, false, 20);
        x.put(0, 1, 1);
        x.put(0, 2, 0);
        check.due("settled", x.settle(0, 0), 50);
        check.due("the first one that is not refused", x.moved(), 0);
        x.bar(0, 2, true);
        check.due("settled again", x.settle(0, 1), 50);
        check.due("two MOVED", x.moved(), 2);
        check.due("refused", x.settle(0, 2), NONE);
        check.due("refused too", x.settle(1, 0), NONE);
        check.due("two MOVED still", x.moved(), 2);
        x.put(0, 0, NONE);
        check.due("two MOVED, whatever put() does", x.moved(), 2);
        check.due("settled at last", x.settle(0, 1), 50);
        check.due("who had none has not MOVED", x.moved(), 0);
    }

    private static void mostOfNoSuchTown() {
        for (int wrong : new int[] {-1, 3, 6, Edge.LEAST, Edge.MOST}) {
            edge.none("most of TOWN " + wrong, BUSY, x -> x.most(wrong));
        }
        edge.told("most of the last TOWN", BUSY, x -> x.most(2), 6);
        edge.told("most where it is OVER", OVER, x -> x.most(0), 6);
    }

    private static void mostOfNobodyAndOfNoRoom() {
        edge.told("nobody", () -> {
            TourRooms x = new TourRooms();
            x.town(1);
            x.room(0, 2, false, 10);
            return x;
        }, x -> x.most(0), 0);
        edge.told("no ROOM", () -> {
            TourRooms x = Desk.people(10);
            x.town(1);
            return x;
        }, x -> x.most(0), 0);
        edge.told("no ROOM that is HELD", () -> {
            TourRooms x = Desk.people(10);
            x.town(1);
            x.room(0, 2, false, 10);
            x.give(0, 0);
            return x;
        }, x -> x.most(0), 0);
    }

    private static void mostBetweenNoneAndAll() {
        for (int rooms = 1; rooms <= 10; rooms++) {
            int r = rooms;
            Edge.Make make = () -> {
                TourRooms x = Desk.people(10);
                x.town(1);
                for (int k = 0; k < r; k++) {
                    x.room(0, 2, false, 10);
                }
                return x;
            };
            edge.told("most of ten in " + r + " ROOMS of two BEDS", make, x -> x.most(0), Math.min(10, 2 * r));
        }
        edge.told("most with one BED too few", () -> narrow(false), x -> x.most(0), 2);
        edge.told("most with just enough", () -> narrow(true), x -> x.most(0), 3);
    }

    private static void rightOfNoneSuch() {
        for (int wrong : new int[] {-1, 3, 6, Edge.LEAST, Edge.MOST}) {
            edge.no("right of TOWN " + wrong, BUSY, x -> x.right(wrong));
        }
        edge.told("right of a TOWN", BUSY, x -> x.right(0) ? 1 : 0, 1);
        edge.told("right of a TOWN that is OVER", OVER, x -> x.right(0) ? 1 : 0, 1);
    }

    private static void rightByEachOfItsRules() {
        edge.told("nobody and no ROOM", () -> {
            TourRooms x = new TourRooms();
            x.town(1);
            return x;
        }, x -> x.right(0) ? 1 : 0, 1);
        edge.no("one who is THERE has no ROOM", () -> {
            TourRooms x = Desk.busy();
            x.put(0, 5, NONE);
            return x;
        }, x -> x.right(0));
        edge.no("the first PERSON has no ROOM", () -> {
            TourRooms x = Desk.busy();
            x.put(0, 0, NONE);
            return x;
        }, x -> x.right(0));
        edge.no("one more is THERE", () -> {
            TourRooms x = Desk.busy();
            x.stays(6, 0, 2);
            return x;
        }, x -> x.right(0));
        edge.no("two MAY not SHARE any more", () -> {
            TourRooms x = Desk.busy();
            x.bar(2, 4, true);
            return x;
        }, x -> x.right(0));
        edge.no("two are no FRIENDS any more", () -> {
            TourRooms x = Desk.busy();
            x.friends(0, 1, false);
            return x;
        }, x -> x.right(0));
        edge.told("who has no ROOM is GONE", () -> {
            TourRooms x = Desk.busy();
            x.put(0, 5, NONE);
            x.gone(5);
            return x;
        }, x -> x.right(0) ? 1 : 0, 1);
    }

    private static void listedOfNoneSuch() {
        for (int wrong : new int[] {-1, 3, 6, 8, Edge.LEAST, Edge.MOST}) {
            edge.none("listed in TOWN " + wrong, BUSY, x -> x.listed(wrong, 0, 3));
        }
        for (int wrong : new int[] {-1, 8, 9, 10, 16, Edge.LEAST, Edge.MOST}) {
            edge.none("listed of PERSON " + wrong, BUSY, x -> x.listed(0, wrong, 3));
        }
        edge.none("listed of one that has none", BUSY, x -> x.listed(0, 6, 3));
        edge.told("listed of one", BUSY, x -> x.listed(0, 3, 3), 2);
        edge.told("listed in the last TOWN", BUSY, x -> x.listed(2, 3, 3), 2);
        edge.told("listed where it is OVER", OVER, x -> x.listed(0, 3, 4), 2);
    }

    private static void listedOnDays() {
        for (int wrong : new int[] {-1, 4, 5, 1000, Edge.LEAST, Edge.MOST}) {
            edge.none("listed on day " + wrong, BUSY, x -> x.listed(0, 0, wrong));
        }
        for (int day = 0; day <= 3; day++) {
            int d = day;
            edge.told("listed on day " + d, BUSY, x -> x.listed(0, 0, d), 0);
        }
        TourRooms x = Desk.busy();
        for (int k = 0; k < 9; k++) {
            x.day(100);
        }
        x.day(97);
        x.put(0, 0, 3);
        check.due("on the last day", x.listed(0, 0, 1000), 3);
        check.due("a day ahead", x.listed(0, 0, 999), 0);
        check.due("on day 0", x.listed(0, 0, 0), 0);
        check.due("on day 1001", x.listed(0, 0, 1001), NONE);
    }

    private static void listedAtTheEndOfADay() {
        TourRooms x = Desk.busy();
        x.day(1);
        x.put(0, 0, 3);
        x.put(0, 0, 5);
        check.due("now", x.listed(0, 0, 4), 5);
        x.put(0, 0, NONE);
        check.due("now none", x.listed(0, 0, 4), NONE);
        x.day(1);
        check.due("a day later", x.listed(0, 0, 5), NONE);
        check.due("on that day", x.listed(0, 0, 4), NONE);
        check.due("the day ahead of it", x.listed(0, 0, 3), 0);
        x.put(0, 0, 0);
        x.gone(0);
        check.due("GONE", x.listed(0, 0, 5), NONE);
        check.due("GONE, on an earlier day", x.listed(0, 0, 3), 0);
    }
}
