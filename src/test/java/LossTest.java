/** Promises 24 and 25: loss and gives. */
public final class LossTest {
    private static final Check check = new Check();

    public static void main(String[] args) {
        wrongOnes();
        atOnce();
        byDays();
        factsOfTheDay();
        check.end();
    }

    private static TourRooms withRooms(int held, int used) {
        TourRooms x = new TourRooms();
        x.town(1);
        for (int k = 0; k < held; k++) {
            x.room(0, 1, false, 10);
        }
        for (int k = 0; k < used; k++) {
            x.person(true, 0, false, 0, 0, 5);
            x.put(0, k, k);
        }
        return x;
    }

    private static void wrongOnes() {
        TourRooms x = new TourRooms();
        check.due("no town", x.loss(0, 0, 0, 0, 0), -1);
        check.due("no town to give in", x.gives(0, 0, 0, 0, 0), -1);
        x.town(1);
        int[][] wrong = {{1, 0, 0, 0, 0}, {-1, 0, 0, 0, 0}, {0, -1, 0, 0, 0}, {0, 31, 0, 0, 0},
            {0, 0, -1, 0, 0}, {0, 0, 4, 0, 0}, {0, 0, 0, -1, 0}, {0, 0, 0, 4, 0},
            {0, 0, 0, 0, -1}, {0, 0, 0, 0, 1001}};
        for (int[] w : wrong) {
            check.due("loss of a wrong one", x.loss(w[0], w[1], w[2], w[3], w[4]), -1);
            check.due("gives of a wrong one", x.gives(w[0], w[1], w[2], w[3], w[4]), -1);
        }
        // from nothing used 3 more come each day, and none is held
        check.due("the far edge", x.loss(0, 30, 3, 3, 1000), 10000);
        check.due("nothing to give", x.gives(0, 30, 3, 3, 1000), 0);
    }

    private static void atOnce() {
        TourRooms x = withRooms(5, 2);
        check.due("three too many", x.loss(0, 0, 3, 3, 1000), 300);
        check.due("none given", x.gives(0, 0, 3, 3, 1000), 0);
        check.due("all fits", withRooms(2, 2).loss(0, 0, 0, 0, 7), 0);
    }

    private static void byDays() {
        TourRooms x = withRooms(3, 1);
        Check.read(x, 0, "fee 20;");
        check.due("two given", x.loss(0, 1, 0, 0, 500), 40);
        check.due("gives 2", x.gives(0, 1, 0, 0, 500), 2);
        check.due("the least r", x.loss(0, 2, 0, 0, 500), 40);
        check.due("may wait", x.gives(0, 2, 0, 0, 500), 0);
        // r 0: worst of used 0, 1, 2 is 300; r 1: 20 + 200; r 2: 40 + 100; r 3: 60 + 2 * 30
        check.due("give them all", x.loss(0, 1, 1, 1, 30), 120);
        check.due("gives 3", x.gives(0, 1, 1, 1, 30), 3);
        Check.read(x, 0, "fee 0;");
        check.due("for nothing", x.loss(0, 1, 0, 0, 500), 0);
        check.due("gives two", x.gives(0, 1, 0, 0, 500), 2);
        check.due("the list stays", x.townOf(0, 3), 3);
    }

    private static void factsOfTheDay() {
        TourRooms x = withRooms(4, 1);
        Check.read(x, 0, "fee 90 when left<2; fee 10 when held<4; fee 50 when used=1 and people=1; fee 7;");
        // three must go: today 150, or one today for 50 and two tomorrow for 10 each is dearer by left
        check.due("a day ahead", x.loss(0, 1, 0, 0, 0), 270);
        check.due("two days ahead", x.loss(0, 2, 0, 0, 0), 150);
        check.due("gives all", x.gives(0, 2, 0, 0, 0), 3);
        check.due("three days ahead", x.loss(0, 3, 0, 0, 0), 70);
        check.due("gives one, then it is cheap", x.gives(0, 3, 0, 0, 0), 1);
        check.due("worth is as before", x.worth(0, 0), 50);
    }
}
