/** The edges of promises 36 to 39: townOf, roomOf, personOf, count. */
public final class EdgeTellTest {
    private static final Edge edge = new Edge();
    private static final Check check = edge.check;
    private static final int NONE = Edge.NONE;
    private static final Edge.Make BUSY = Desk::busy;
    private static final Edge.Make OVER = Desk::over;

    public static void main(String[] args) {
        townOfNoSuchTown();
        townOfOthers();
        townOfEachWhat();
        townOfAnEmptyTown();
        townOfAFullTown();
        roomOfNoSuchOnes();
        roomOfOthers();
        roomOfEachWhat();
        roomOfBits();
        personOfNoSuchOne();
        personOfOthers();
        personOfEachWhat();
        personOfSharers();
        countOfOthers();
        countOfEachWhat();
        countAtTheirEnds();
        check.end();
    }

    private static void townOfNoSuchTown() {
        for (int wrong : new int[] {-1, 3, 6, Edge.LEAST, Edge.MOST}) {
            for (int what = 0; what <= 8; what++) {
                int w = what;
                edge.none("townOf(" + wrong + ", " + w + ")", BUSY, x -> x.townOf(wrong, w));
            }
        }
        edge.told("the 6th TOWN", () -> {
            TourRooms x = new TourRooms();
            for (int k = 0; k < 6; k++) {
                x.town(3);
            }
            return x;
        }, x -> x.townOf(5, 0), 3);
    }

    private static void townOfOthers() {
        for (int wrong : new int[] {-1, 9, 10, Edge.LEAST, Edge.MOST}) {
            edge.none("townOf(0, " + wrong + ")", BUSY, x -> x.townOf(0, wrong));
        }
    }

    private static void townOfEachWhat() {
        int[] due = {2, 0, 6, 5, 3, 6, 210, 1, 4};
        for (int what = 0; what < due.length; what++) {
            int w = what;
            edge.told("townOf(0, " + w + ") of a TOWN that is OVER", OVER, x -> x.townOf(0, w), due[w]);
        }
        int[] next = {1, 5, 3, 3, 2, 2, 101, 0, 0};
        for (int what = 0; what < next.length; what++) {
            int w = what;
            edge.told("townOf(2, " + w + ")", OVER, x -> x.townOf(2, w), next[w]);
        }
    }

    private static void townOfAnEmptyTown() {
        int[] due = {1, 0, 0, 0, 0, 0, 0, 0, 0};
        for (int what = 0; what < due.length; what++) {
            int w = what;
            edge.told("townOf(0, " + w + ") of an empty TOWN", () -> {
                TourRooms x = new TourRooms();
                x.town(1);
                return x;
            }, x -> x.townOf(0, w), due[w]);
        }
    }

    private static TourRooms full() {
        TourRooms x = Desk.people(10);
        x.town(5);
        for (int k = 0; k < 10; k++) {
            x.room(0, 1, true, 1000);
        }
        for (int k = 0; k < 10; k++) {
            x.put(0, k, 9 - k);
        }
        Check.read(x, 0, "fee1;".repeat(12));
        return x;
    }

    private static void townOfAFullTown() {
        int[] due = {5, 0, 10, 10, 10, 10, 10000, 0, 12};
        for (int what = 0; what < due.length; what++) {
            int w = what;
            edge.told("townOf(0, " + w + ") of a full TOWN", EdgeTellTest::full, x -> x.townOf(0, w), due[w]);
        }
    }

    private static void roomOfNoSuchOnes() {
        for (int what = 0; what <= 4; what++) {
            int w = what;
            for (int wrong : new int[] {-1, 3, 6, Edge.LEAST, Edge.MOST}) {
                edge.none("roomOf(" + wrong + ", 0, " + w + ")", BUSY, x -> x.roomOf(wrong, 0, w));
            }
            for (int wrong : new int[] {-1, 6, 9, 10, Edge.LEAST, Edge.MOST}) {
                edge.none("roomOf(0, " + wrong + ", " + w + ")", BUSY, x -> x.roomOf(0, wrong, w));
            }
            edge.none("roomOf(2, 3, " + w + ")", BUSY, x -> x.roomOf(2, 3, w));
            edge.none("roomOf(0, 10, " + w + ") of a full TOWN", EdgeTellTest::full, x -> x.roomOf(0, 10, w));
        }
    }

    private static void roomOfOthers() {
        for (int wrong : new int[] {-1, 5, 6, Edge.LEAST, Edge.MOST}) {
            edge.none("roomOf(0, 0, " + wrong + ")", BUSY, x -> x.roomOf(0, 0, wrong));
        }
    }

    private static void roomOfEachWhat() {
        int[] used = {2, 1, 80, 1, 4 + 16};
        int[] given = {1, 0, 30, 0, 0};
        for (int what = 0; what <= 4; what++) {
            int w = what;
            edge.told("roomOf(0, 1, " + w + ")", BUSY, x -> x.roomOf(0, 1, w), used[w]);
            edge.told("roomOf(0, 4, " + w + ")", BUSY, x -> x.roomOf(0, 4, w), given[w]);
            edge.told("roomOf(0, 1, " + w + ") of a TOWN that is OVER", OVER, x -> x.roomOf(0, 1, w), used[w]);
        }
    }

    private static void roomOfBits() {
        for (int room = 0; room < 10; room++) {
            int r = room;
            edge.told("who is in ROOM " + r, EdgeTellTest::full, x -> x.roomOf(0, r, 4), 1 << 9 - r);
        }
    }

    private static void personOfNoSuchOne() {
        for (int wrong : new int[] {-1, 8, 9, 10, Edge.LEAST, Edge.MOST}) {
            for (int what = 0; what <= 8; what++) {
                int w = what;
                edge.none("personOf(" + wrong + ", " + w + ")", BUSY, x -> x.personOf(wrong, w));
            }
        }
        edge.told("the 10th PERSON", EdgeTellTest::full, x -> x.personOf(9, 0), 1);
        edge.none("an 11th PERSON", EdgeTellTest::full, x -> x.personOf(10, 0));
    }

    private static void personOfOthers() {
        for (int wrong : new int[] {-1, 9, 10, Edge.LEAST, Edge.MOST}) {
            edge.none("personOf(0, " + wrong + ")", BUSY, x -> x.personOf(0, wrong));
        }
    }

    private static void personOfEachWhat() {
        int[][] due = {
            {0, 0, 0, 0, 0, 5, 0, 1, 1}, {0, 1, 0, 1, 0, 5, 0, 0, 1}, {1, 2, 0, 2, 0, 5, 0, NONE, 2},
            {1, 2, 0, 3, 0, 5, 0, NONE, 2}, {1, 2, 1, 0, 0, 5, 0, NONE, 3}, {1, 2, 0, 1, 0, 2, 0, NONE, 3},
            {1, 3, 0, 2, 1, 2, 0, NONE, 0}, {1, 2, 0, 2, 0, 5, 1, NONE, 4},
        };
        for (int person = 0; person < Desk.PEOPLE; person++) {
            for (int what = 0; what <= 8; what++) {
                int p = person;
                int w = what;
                edge.told("personOf(" + p + ", " + w + ")", BUSY, x -> x.personOf(p, w), due[p][w]);
            }
        }
    }

    private static void personOfSharers() {
        edge.told("nobody else", () -> Desk.people(1), x -> x.personOf(0, 8), 0);
        edge.told("nine others", () -> Desk.people(10), x -> x.personOf(0, 8), 9);
        edge.told("nine others of the last", () -> Desk.people(10), x -> x.personOf(9, 8), 9);
        Edge.Make pair = () -> {
            TourRooms x = Desk.people(10);
            x.friends(4, 7, true);
            return x;
        };
        edge.told("a FRIEND alone", pair, x -> x.personOf(4, 8), 1);
        edge.told("the others but the FRIENDS", pair, x -> x.personOf(0, 8), 7);
        edge.told("whose FRIEND is GONE", () -> {
            TourRooms x = pair.make();
            x.gone(7);
            return x;
        }, x -> x.personOf(4, 8), 8);
        edge.told("all others are GONE", () -> {
            TourRooms x = Desk.people(10);
            for (int k = 1; k < 10; k++) {
                x.gone(k);
            }
            return x;
        }, x -> x.personOf(0, 8), 0);
    }

    private static void countOfOthers() {
        for (int wrong : new int[] {-1, 11, 12, Edge.LEAST, Edge.MOST}) {
            edge.none("count(" + wrong + ")", BUSY, x -> x.count(wrong));
        }
    }

    private static void countOfEachWhat() {
        // spent: 8 and 120; notes: 9 put, 2 for who is GONE, 6 settled (a 7th stays where it is), 2 put
        int[] due = {3, 3, 1, 8, 3, 6, 1, 128, 7, 3, 19};
        for (int what = 0; what < due.length; what++) {
            int w = what;
            edge.told("count(" + w + ")", BUSY, x -> x.count(w), due[w]);
        }
    }

    private static void countAtTheirEnds() {
        TourRooms x = new TourRooms();
        for (int k = 0; k < 11; k++) {
            x.day(100);
            x.person(true, 0, false, 0, 0, 5);
            x.town(5);
            x.sight(0, 100, 10);
        }
        x.start(400);
        x.season(3);
        Check.feed(x, " ".repeat(410));
        int[] due = {1000, 400, 3, 10, 6, 30, 0, 0, 400, 6, 0};
        for (int what = 0; what < due.length; what++) {
            check.due("count(" + what + ") at its end", x.count(what), due[what]);
        }
        for (int k = 0; k < 30; k++) {
            x.room(k / 5, 2, true, 1);
            x.room(k / 5, 2, true, 1);
        }
        for (int town = 0; town < 6; town++) {
            check.due("settle", x.settle(town, 0), 5);
        }
        for (int k = 0; k < 30; k++) {
            x.night();
        }
        check.due("all NIGHTS closed", x.count(6), 30);
        check.due("notes", x.count(10), 60);
        check.due("500 notes", Desk.noted(500).count(10), 500);
    }
}
