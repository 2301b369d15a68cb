import java.util.NoSuchElementException;

/** Promises 31 to 35: night, lay, bill, owes, meals. */
public final class BookTest {
    private static final Check check = new Check();

    public static void main(String[] args) {
        night();
        lay();
        shares();
        refunds();
        bills();
        meals();
        check.end();
    }

    private static void night() {
        TourRooms x = new TourRooms();
        check.due("no night", x.night(), -1);
        x.person(true, 0, false, 0, 0, 0);
        x.town(2);
        x.town(1);
        x.room(0, 1, false, 10);
        x.start(2);
        x.put(0, 0, 0);
        x.day(1);
        check.due("not yet", x.night(), -1);
        x.day(1);
        x.put(0, 0, -1);
        check.due("the list is not right", x.night(), -1);
        x.put(0, 0, 0);
        check.due("the first", x.night(), 0);
        check.due("count(6)", x.count(6), 1);
        check.due("the second is not yet", x.night(), -1);
        check.due("not over", x.townOf(0, 7), 0);
        x.day(9);
        check.due("later will do", x.night(), 1);
        check.due("over", x.townOf(0, 7), 1);
        check.due("nobody there", x.night(), 2);
        check.due("none any more", x.night(), -1);
        check.due("count(6) at the end", x.count(6), 3);
    }

    private static void lay() {
        TourRooms x = new TourRooms();
        x.person(true, 0, false, 0, 0, 5);
        x.person(true, 0, false, 0, 1, 5);
        x.start(0);
        x.town(2);
        x.room(0, 1, false, 10);
        x.room(0, 1, false, 20);
        x.put(0, 0, 1);
        check.due("not closed", x.lay(0, 0), -1);
        x.night();
        x.day(1);
        x.put(0, 0, 0);
        x.night();
        check.due("night 0", x.lay(0, 0), 1);
        check.due("night 1", x.lay(1, 0), 0);
        check.due("not there", x.lay(0, 1), -1);
        check.due("no person", x.lay(0, 2), -1);
        check.due("no person -1", x.lay(0, -1), -1);
        check.due("night 2", x.lay(2, 0), -1);
        check.due("night -1", x.lay(-1, 0), -1);
        x.gone(0);
        check.due("it lay there", x.lay(0, 0), 1);
    }

    private static void shares() {
        TourRooms x = new TourRooms();
        for (int k = 0; k < 3; k++) {
            x.person(true, 0, false, 0, 0, 5);
        }
        x.start(0);
        x.town(1);
        x.room(0, 2, false, 25);
        x.room(0, 2, false, 31);
        x.put(0, 2, 0);
        x.put(0, 1, 0);
        x.put(0, 0, 1);
        check.due("nothing yet", x.owes(1), 0);
        x.night();
        check.due("alone in two beds", x.owes(0), 31);
        check.due("the lesser number one more", x.owes(1), 13);
        check.due("the other one", x.owes(2), 12);
        int thrown = 0;
        for (int person : new int[] {-1, 3, 10, Integer.MAX_VALUE}) {
            try {
                x.owes(person);
            } catch (NoSuchElementException e) {
                thrown++;
            }
        }
        check.due("no such ones", thrown, 4);
    }

    private static void refunds() {
        TourRooms x = new TourRooms();
        for (int k = 0; k < 2; k++) {
            x.person(true, 0, false, 0, 0, 5);
        }
        x.start(0);
        x.town(3);
        x.room(0, 2, false, 25);
        x.put(0, 0, 0);
        x.put(0, 1, 0);
        Check.read(x, 0, "refund 50;");
        x.absent(0, 0, true);
        x.absent(1, 0, true);
        x.night();
        check.due("13 less 6", x.owes(0), 7);
        check.due("12 less 6", x.owes(1), 6);
        check.due("the bill is the bill", x.bill(0), 25);
        x.day(2);
        x.night();
        check.due("there", x.owes(0), 20);
        Check.read(x, 0, "refund 100 when left<0-1;");
        x.absent(1, 2, true);
        x.night();
        check.due("there again", x.owes(0), 33);
        check.due("by the worth of that day", x.owes(1), 18);
    }

    private static void bills() {
        TourRooms x = new TourRooms();
        for (int k = 0; k < 4; k++) {
            x.person(false, 0, false, 0, 0, 5);
        }
        x.start(0);
        x.town(5);
        int[] prices = {40, 7, 30, 50, 30};
        for (int price : prices) {
            x.room(0, 1, false, price);
        }
        for (int k = 0; k < 4; k++) {
            x.put(0, k, k == 1 ? 4 : k);
        }
        x.day(9);
        String[] free = {"", "free 1;", "free 2;", "free used;", "free 99;"};
        int[] due = {150, 120, 90, 0, 0};
        for (int night = 0; night < 5; night++) {
            Check.read(x, 0, free[night]);
            x.night();
            check.due("bill of " + free[night], x.bill(night), due[night]);
        }
        check.due("what is owed is the price", x.owes(0), 200);
        int thrown = 0;
        for (int night : new int[] {-1, 5, Integer.MIN_VALUE}) {
            try {
                x.bill(night);
            } catch (NoSuchElementException e) {
                thrown++;
            }
        }
        check.due("no such ones", thrown, 3);
        try {
            new TourRooms().bill(0);
            check.fail("bill(0) of a new object threw nothing");
        } catch (NoSuchElementException e) {
            thrown++;
        }
    }

    private static void meals() {
        TourRooms x = new TourRooms();
        x.person(true, 0, false, 1, 0, 5);
        x.person(true, 0, false, 1, 0, 5);
        x.person(true, 0, false, 3, 0, 5);
        check.due("no town", x.meals(0, 0), -1);
        x.town(1);
        check.due("nobody on the list", x.meals(0, 1), 0);
        x.room(0, 2, false, 10);
        x.room(0, 2, false, 10);
        x.put(0, 0, 0);
        check.due("one", x.meals(0, 1), 1);
        x.settle(0, 0);
        int[] due = {0, 2, 0, 1};
        for (int diet = 0; diet < 4; diet++) {
            check.due("diet " + diet, x.meals(0, diet), due[diet]);
        }
        check.due("diet 4", x.meals(0, 4), -1);
        check.due("diet -1", x.meals(0, -1), -1);
        check.due("town 1", x.meals(1, 0), -1);
        check.due("town -1", x.meals(-1, 0), -1);
    }
}
