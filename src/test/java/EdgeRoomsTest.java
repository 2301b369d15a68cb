/** The edges of promises 22 to 25: give, buy, loss, gives. */
public final class EdgeRoomsTest {
    private static final Edge edge = new Edge();
    private static final Check check = edge.check;
    private static final Edge.Make BUSY = Desk::busy;
    private static final Edge.Make OVER = Desk::over;

    public static void main(String[] args) {
        giveOfNoSuchTown();
        giveOfNoSuchRoom();
        giveWhereItIsOver();
        giveWhatIsNotHeld();
        giveWithSomebodyInIt();
        giveCostsRoundedUp();
        buyOfNoSuchTown();
        buyOfNoSuchRoom();
        buyWhereItIsOver();
        buyWhatIsHeld();
        buyCostsRoundedUp();
        spentIsTheSum();
        theWorthIsTheOneAheadOfTheChange();
        lossOfNoSuchTown();
        lossByOtherDays();
        lossByOtherUpAndDown();
        lossByAnotherShort();
        lossWithNoDay();
        lossWithNothing();
        lossKeepsUsedWithinTen();
        lossWithTenRooms();
        lossByTheFactsOfEachDay();
        givesNothingWithNoDay();
        givesTheLeast();
        check.end();
    }

    private static void giveOfNoSuchTown() {
        for (int wrong : new int[] {-1, 3, 6, Edge.LEAST, Edge.MOST}) {
            edge.none("give in TOWN " + wrong, BUSY, x -> x.give(wrong, 0));
        }
        edge.is("give in the last TOWN", BUSY, x -> x.give(2, 1), 0);
    }

    private static void giveOfNoSuchRoom() {
        for (int wrong : new int[] {-1, -2, 6, 9, 10, Edge.LEAST, Edge.MOST}) {
            edge.none("give of ROOM " + wrong, BUSY, x -> x.give(0, wrong));
        }
        TourRooms x = edge.is("give of the last ROOM", BUSY, y -> y.give(0, 5), 7);
        check.due("not HELD", x.roomOf(0, 5, 3), 0);
        check.due("HELD ones", x.townOf(0, 3), 4);
        check.due("SPENT", x.count(7), Desk.busy().count(7) + 7);
    }

    private static void giveWhereItIsOver() {
        edge.none("give where it is OVER", OVER, x -> x.give(0, 5));
        edge.is("give between two NIGHTS", BUSY, x -> x.give(0, 5), 7);
        edge.is("give in the next TOWN", OVER, x -> x.give(2, 1), 0);
    }

    private static void giveWhatIsNotHeld() {
        edge.none("give what is GIVEN BACK", BUSY, x -> x.give(0, 4));
        edge.is("give what is BOUGHT BACK", () -> {
            TourRooms x = Desk.busy();
            x.buy(0, 4);
            return x;
        }, x -> x.give(0, 4), 6);
    }

    private static void giveWithSomebodyInIt() {
        edge.none("give with two in it", BUSY, x -> x.give(0, 0));
        Edge.Make one = () -> {
            TourRooms x = Desk.busy();
            x.put(0, 0, 5);
            return x;
        };
        edge.none("give with one in it", one, x -> x.give(0, 0));
        edge.is("give with nobody in it any more", () -> {
            TourRooms x = one.make();
            x.put(0, 1, 3);
            return x;
        }, x -> x.give(0, 0), 12);
        edge.is("give where somebody is in that ROOM of another TOWN", BUSY, x -> x.give(0, 3), 8);
    }

    /** A town of so many nights with a room of a price that is given back, or held. */
    private static TourRooms priced(int nights, int price, int worth, boolean held) {
        TourRooms x = new TourRooms();
        x.town(nights);
        x.room(0, 1, false, price);
        if (!held) {
            x.give(0, 0);
        }
        StringBuilder text = new StringBuilder();
        text.append("fee ").append(worth).append(";back ").append(worth).append(';');
        Check.read(x, 0, text.toString());
        return x;
    }

    private static void giveCostsRoundedUp() {
        costs(true);
    }

    private static void buyCostsRoundedUp() {
        costs(false);
    }

    private static void costs(boolean held) {
        int[][] rows = {
            // nights, price, worth, cost
            {1, 1, 0, 0}, {1, 1, 1, 1}, {1, 100, 1, 1}, {1, 101, 1, 2}, {1, 99, 1, 1}, {5, 20, 1, 1},
            {5, 21, 1, 2}, {3, 33, 1, 1}, {3, 34, 1, 2}, {1, 1, 100, 1}, {5, 1000, 100, 5000},
            {5, 1000, 99, 4950}, {5, 999, 99, 4946}, {2, 50, 50, 50}, {1, 3, 50, 2}, {5, 1000, 0, 0},
            {5, 1000, 1, 50}, {1, 1000, 101, 1000},
        };
        for (int[] row : rows) {
            String name = row[2] + " of a hundred of " + row[1] + " for " + row[0];
            TourRooms x = priced(row[0], row[1], row[2], held);
            check.due(name, held ? x.give(0, 0) : x.buy(0, 0), row[3]);
            check.due(name + ", SPENT", x.count(7), row[3]);
            check.due(name + ", HELD", x.roomOf(0, 0, 3), held ? 0 : 1);
        }
    }

    private static void buyOfNoSuchTown() {
        for (int wrong : new int[] {-1, 3, 6, Edge.LEAST, Edge.MOST}) {
            edge.none("buy in TOWN " + wrong, BUSY, x -> x.buy(wrong, 4));
        }
    }

    private static void buyOfNoSuchRoom() {
        for (int wrong : new int[] {-1, -2, 6, 9, 10, Edge.LEAST, Edge.MOST}) {
            edge.none("buy of ROOM " + wrong, BUSY, x -> x.buy(0, wrong));
        }
        TourRooms x = edge.is("buy", BUSY, y -> y.buy(0, 4), 15);
        check.due("HELD", x.roomOf(0, 4, 3), 1);
        check.due("HELD ones", x.townOf(0, 3), 6);
        check.due("SPENT", x.count(7), Desk.busy().count(7) + 15);
    }

    private static void buyWhereItIsOver() {
        edge.none("buy where it is OVER", OVER, x -> x.buy(0, 4));
        edge.is("buy between two NIGHTS", BUSY, x -> x.buy(0, 4), 15);
        // back left+held: 1 and 5, of 80 for three nights
        edge.is("buy in the next TOWN", OVER, x -> x.buy(1, 1), 15);
    }

    private static void buyWhatIsHeld() {
        for (int room : new int[] {0, 1, 2, 3, 5}) {
            edge.none("buy of ROOM " + room + ", which is HELD", BUSY, x -> x.buy(0, room));
        }
        edge.none("buy what is BOUGHT BACK", () -> {
            TourRooms x = Desk.busy();
            x.buy(0, 4);
            return x;
        }, x -> x.buy(0, 4));
    }

    private static void spentIsTheSum() {
        TourRooms x = priced(5, 1000, 100, true);
        for (int k = 1; k <= 20; k++) {
            check.due("give", x.give(0, 0), 5000);
            check.due("SPENT", x.count(7), 10000 * k - 5000);
            check.due("buy", x.buy(0, 0), 5000);
            check.due("SPENT", x.count(7), 10000 * k);
        }
    }

    private static void theWorthIsTheOneAheadOfTheChange() {
        TourRooms x = new TourRooms();
        x.town(1);
        x.room(0, 1, false, 100);
        x.room(0, 1, false, 100);
        Check.read(x, 0, "fee held+10;back held+20;");
        check.due("give of two", x.give(0, 0), 12);
        check.due("give of one", x.give(0, 1), 11);
        check.due("buy of none", x.buy(0, 0), 20);
        check.due("buy beside one", x.buy(0, 1), 21);
    }

    private static TourRooms held(int held, int used, String text) {
        TourRooms x = new TourRooms();
        x.town(1);
        for (int k = 0; k < held; k++) {
            x.room(0, 1, false, 10);
        }
        for (int k = 0; k < used; k++) {
            x.person(true, 0, false, 0, 0, 5);
            x.put(0, k, k);
        }
        Check.read(x, 0, text);
        return x;
    }

    private static void both(String what, Edge.Make make, int[] asked, int loss, int gives) {
        int t = asked[0];
        int d = asked[1];
        int up = asked[2];
        int down = asked[3];
        int small = asked[4];
        edge.told("loss: " + what, make, x -> x.loss(t, d, up, down, small), loss);
        edge.told("gives: " + what, make, x -> x.gives(t, d, up, down, small), gives);
    }

    private static void neither(String what, int t, int d, int up, int down, int small) {
        both(what, BUSY, new int[] {t, d, up, down, small}, Edge.NONE, Edge.NONE);
    }

    private static void lossOfNoSuchTown() {
        for (int wrong : new int[] {-1, 3, 6, Edge.LEAST, Edge.MOST}) {
            neither("TOWN " + wrong, wrong, 1, 1, 1, 10);
        }
        both("the last TOWN", BUSY, new int[] {2, 0, 0, 0, 10}, 100, 0);
        both("a TOWN that is OVER", OVER, new int[] {0, 0, 0, 0, 10}, 200, 0);
    }

    private static void lossByOtherDays() {
        for (int wrong : new int[] {-1, 31, 32, Edge.LEAST, Edge.MOST}) {
            neither("d " + wrong, 0, wrong, 1, 1, 10);
        }
        Edge.Make make = () -> held(3, 1, "fee left;");
        both("d 0", make, new int[] {0, 0, 0, 0, 10}, 200, 0);
        both("d 1", make, new int[] {0, 1, 0, 0, 10}, 2, 2);
        both("d 2", make, new int[] {0, 2, 0, 0, 10}, 2, 0);
        both("d 29", make, new int[] {0, 29, 0, 0, 10}, 2, 0);
        both("d 30", make, new int[] {0, 30, 0, 0, 10}, 2, 0);
        Edge.Make dear = () -> held(3, 1, "fee 100-left-left;");
        both("d 30, dear at last", dear, new int[] {0, 30, 0, 0, 10}, 80, 2);
    }

    private static void lossByOtherUpAndDown() {
        for (int wrong : new int[] {-1, 4, 5, Edge.LEAST, Edge.MOST}) {
            neither("up " + wrong, 0, 1, wrong, 1, 10);
            neither("down " + wrong, 0, 1, 1, wrong, 10);
        }
        Edge.Make make = () -> held(5, 4, "fee 100;");
        // a fee of 100 saves nothing: the worst is what comes of it
        for (int by = 0; by <= 3; by++) {
            both("down " + by, make, new int[] {0, 1, 0, by, 0}, 100 + 100 * by, 0);
            both("up " + by, make, new int[] {0, 1, by, 0, 300}, Math.max(100, 300 * (by - 1)), 0);
        }
        both("up and down 3", make, new int[] {0, 1, 3, 3, 1000}, 2000, 0);
    }

    private static void lossByAnotherShort() {
        for (int wrong : new int[] {-1, 1001, 1002, Edge.LEAST, Edge.MOST}) {
            neither("short " + wrong, 0, 1, 1, 1, wrong);
        }
        Edge.Make make = () -> held(1, 1, "");
        both("short 0", make, new int[] {0, 1, 3, 0, 0}, 0, 0);
        both("short 1", make, new int[] {0, 1, 3, 0, 1}, 3, 0);
        both("short 1000", make, new int[] {0, 1, 3, 0, 1000}, 3000, 0);
    }

    private static void lossWithNoDay() {
        both("two more", () -> held(3, 1, "fee 0;"), new int[] {0, 0, 3, 3, 10}, 200, 0);
        both("as many", () -> held(2, 2, "fee 0;"), new int[] {0, 0, 3, 3, 10}, 0, 0);
        both("none", () -> held(0, 0, "fee 0;"), new int[] {0, 0, 3, 3, 1000}, 0, 0);
        both("ten more", () -> held(10, 0, "fee 0;"), new int[] {0, 0, 3, 3, 1000}, 1000, 0);
    }

    private static void lossWithNothing() {
        both("none HELD, none used", () -> held(0, 0, ""), new int[] {0, 30, 0, 3, 1000}, 0, 0);
        both("none HELD, one comes", () -> held(0, 0, ""), new int[] {0, 1, 1, 3, 1000}, 1000, 0);
    }

    private static void lossKeepsUsedWithinTen() {
        both("not below 0", () -> held(2, 1, "fee 100;"), new int[] {0, 1, 0, 3, 0}, 200, 0);
        both("not above 10, by days", () -> held(0, 0, ""), new int[] {0, 4, 3, 0, 1}, 10, 0);
        both("9 by three days", () -> held(0, 0, ""), new int[] {0, 3, 3, 0, 1}, 9, 0);
        both("not above 10, at once", () -> held(10, 9, ""), new int[] {0, 1, 3, 0, 1000}, 100, 0);
        both("11 would be one too few", () -> held(10, 10, ""), new int[] {0, 30, 3, 0, 1000}, 0, 0);
    }

    private static void lossWithTenRooms() {
        both("all ten given", () -> held(10, 0, "fee 1;"), new int[] {0, 1, 0, 0, 1000}, 10, 10);
        both("all ten given, a day later", () -> held(10, 0, "fee 1;"), new int[] {0, 2, 0, 0, 1000}, 10, 0);
        both("none of ten given", () -> held(10, 10, "fee 0;"), new int[] {0, 1, 0, 0, 1}, 0, 0);
        both("some must be kept", () -> held(10, 2, "fee 1;"), new int[] {0, 1, 3, 0, 1000}, 305, 5);
    }

    private static void lossByTheFactsOfEachDay() {
        both("by held", () -> held(4, 1, "fee held;"), new int[] {0, 1, 0, 0, 1000}, 12, 3);
        // 6 for one, then 4 for one, then 2
        both("by held, one a day", () -> held(3, 0, "fee held+held;"), new int[] {0, 3, 0, 0, 1000}, 12, 1);
        // 22 each, as one is used, and none tomorrow at worst
        both("by used", () -> held(3, 1, "fee used+used+20;"), new int[] {0, 1, 0, 1, 0}, 66, 3);
        both("by used, two days", () -> held(3, 1, "fee 60-used-used;"), new int[] {0, 2, 1, 1, 0}, 174, 3);
        // one is used in the end at worst: two for 5 each, then two for 3 each
        both("by held with used that spreads", () -> held(5, 3, "fee held;"), new int[] {0, 2, 1, 1, 0}, 16, 2);
        both("by people, as they are", () -> held(4, 1, "fee people+9;"), new int[] {0, 2, 1, 1, 0}, 40, 0);
        both("by left: tomorrow is dear", () -> held(2, 0, "fee 50 when left=1;fee 10;"),
            new int[] {0, 2, 0, 0, 0}, 20, 2);
    }

    private static void givesNothingWithNoDay() {
        TourRooms x = held(4, 1, "fee 1;");
        check.due("gives by a day", x.gives(0, 1, 0, 0, 9), 3);
        check.due("gives by no day", x.gives(0, 0, 0, 0, 9), 0);
        check.due("loss by no day", x.loss(0, 0, 0, 0, 9), 300);
    }

    private static void givesTheLeast() {
        both("all alike: none", () -> held(4, 1, "fee 100;"), new int[] {0, 1, 0, 0, 1000}, 300, 0);
        both("99: three", () -> held(4, 1, "fee 99;"), new int[] {0, 1, 0, 0, 1000}, 297, 3);
        both("0 where short costs nothing: the least r", () -> held(4, 1, "fee 0;"), new int[] {0, 1, 0, 0, 0}, 0, 3);
        both("cheaper with fewer HELD", () -> held(4, 1, "fee 50 when held=4;fee 0;"),
            new int[] {0, 2, 0, 0, 1000}, 50, 1);
    }
}
