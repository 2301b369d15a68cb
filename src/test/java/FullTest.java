import java.util.NoSuchElementException;
import java.util.Random;

/** Everything at its limit at once, the edges just beyond it, and arguments of any size. */
public final class FullTest {
    private static final Check check = new Check();
    private static final int[] WILD = {Integer.MIN_VALUE, -1000000, -2, -1, 0, 1, 2, 3, 4, 5, 6, 9, 10, 11, 20,
        29, 30, 31, 100, 400, 401, 500, 1000, 1001, 1440, 1441, 1000000, Integer.MAX_VALUE};

    public static void main(String[] args) {
        thirtyNights();
        beyondTheEdges();
        tenInSixRooms();
        oneInEachOfTen();
        wildCalls();
        check.end();
    }

    /** Ten people, six towns of five nights, ten rooms in each. */
    private static TourRooms full() {
        TourRooms x = new TourRooms();
        for (int k = 0; k < 10; k++) {
            x.person(true, k % 4, k % 3 == 0, k % 4, 0, 5);
        }
        for (int t = 0; t < 6; t++) {
            x.town(5);
            for (int r = 0; r < 10; r++) {
                x.room(t, 1 + r % 2, true, 10 + r);
            }
        }
        return x;
    }

    private static void thirtyNights() {
        TourRooms x = full();
        x.start(0);
        x.day(29);
        for (int t = 0; t < 6; t++) {
            for (int p = 0; p < 10; p++) {
                check.due("put", x.put(t, p, 9 - p), true);
            }
            for (int n = 0; n < 5; n++) {
                check.due("night", x.night(), 5 * t + n);
            }
        }
        check.due("no 31st", x.night(), -1);
        check.due("closed", x.count(6), 30);
        for (int p = 0; p < 10; p++) {
            check.due("owes", x.owes(p), 30 * (19 - p));
            check.due("lay in the first", x.lay(0, p), 9 - p);
            check.due("lay in the last", x.lay(29, p), 9 - p);
        }
        check.due("bill of the last", x.bill(29), 145);
        check.due("no person 10 lay", x.lay(0, 10), -1);
        check.due("no night 30", x.lay(30, 9), -1);
        check.due("absent in none", x.absent(0, 30, true), false);
        check.due("all over", x.townOf(5, 7), 1);
    }

    private static void beyondTheEdges() {
        TourRooms x = full();
        check.due("personOf(10, 0)", x.personOf(10, 0), -1);
        check.due("friends", x.friends(0, 10, true), false);
        check.due("bar", x.bar(10, 0, true), false);
        check.due("stays", x.stays(10, 0, 5), false);
        check.due("gone", x.gone(10), false);
        check.due("absent 10", x.absent(10, 0, true), false);
        check.due("absent in 29", x.absent(9, 29, true), true);
        check.due("absent in 30", x.absent(9, 30, true), false);
        check.due("put of 10", x.put(0, 10, 0), false);
        check.due("put in 10", x.put(0, 9, 10), false);
        check.due("put in town 6", x.put(6, 9, 0), false);
        check.due("give 10", x.give(0, 10), -1);
        check.due("buy 10", x.buy(0, 10), -1);
        check.due("roomOf 10", x.roomOf(0, 10, 0), -1);
        check.due("townOf 6", x.townOf(6, 0), -1);
        check.due("listed of 10", x.listed(0, 10, 0), -1);
        check.due("listed in 6", x.listed(6, 9, 0), -1);
        check.due("town 7", x.town(1), -1);
        check.due("most", x.most(5), 10);
        check.due("settle", x.settle(5, 0) > 0, true);
        check.due("right", x.right(5), true);
        check.due("loss", x.loss(5, 30, 3, 3, 1000) >= 0, true);
        try {
            x.owes(10);
            check.fail("owes(10) threw nothing");
        } catch (NoSuchElementException e) {
            check.due("people", x.count(3), 10);
        }
    }

    /** Just enough beds, against all lists that there are. */
    private static void tenInSixRooms() {
        TourRooms x = new TourRooms();
        Plain y = new Plain();
        x.town(1);
        y.town(1);
        for (int k = 0; k < 10; k++) {
            x.person(true, k / 5, k == 3, 0, 0, 5);
            y.person(true, k / 5, k == 3, 0, 0, 5);
        }
        int[] beds = {2, 1, 2, 2, 1, 2};
        for (int r = 0; r < 6; r++) {
            x.room(0, beds[r], r > 3, 50 + 7 * r % 5);
            y.room(0, beds[r], r > 3, 50 + 7 * r % 5);
        }
        x.put(0, 0, 5);
        y.put(0, 0, 5);
        x.put(0, 7, 0);
        y.put(0, 7, 0);
        for (int how = 0; how < 2; how++) {
            check.due("settle by " + how, x.settle(0, how), y.settle(0, how));
            check.due("moved", x.moved(), y.moved());
            for (int r = 0; r < 6; r++) {
                check.due("room " + r, x.roomOf(0, r, 4), y.roomOf(0, r, 4));
            }
            x.bar(0, 1, true);
            y.bar(0, 1, true);
        }
    }

    private static void oneInEachOfTen() {
        TourRooms x = new TourRooms();
        x.town(1);
        for (int k = 0; k < 10; k++) {
            x.person(false, 0, false, 0, 0, 5);
            x.room(0, 2, false, 1000);
        }
        check.due("the dearest", x.settle(0, 0), 10000);
        for (int k = 0; k < 10; k++) {
            check.due("room " + k, x.roomOf(0, k, 4), 1 << k);
        }
        for (int k = 0; k < 10; k += 2) {
            x.friends(k, k + 1, true);
        }
        check.due("nobody moves", x.settle(0, 1), 10000);
        check.due("none", x.moved(), 0);
        check.due("friends share", x.settle(0, 0), 5000);
        check.due("half of them moved", x.moved(), 5);
        check.due("the first rooms stay empty, where they can", x.roomOf(0, 0, 4), 0);
    }

    /** No call may throw, but bill and owes, whatever it is given. */
    private static void wildCalls() {
        for (int seed = 0; seed < 200; seed++) {
            Random random = new Random(seed);
            TourRooms x = seed % 2 == 0 ? full() : new TourRooms();
            for (int k = 0; k < 400; k++) {
                wild(x, random.nextInt(40), random);
            }
        }
    }

    private static void wild(TourRooms x, int what, Random random) {
        int a = WILD[random.nextInt(WILD.length)];
        int b = WILD[random.nextInt(WILD.length)];
        int c = WILD[random.nextInt(WILD.length)];
        int d = WILD[random.nextInt(WILD.length)];
        boolean is = random.nextBoolean();
        try {
            switch (what) {
                case 0: x.person(is, a, !is, b, c, d); break;
                case 1: x.friends(a, b, is); break;
                case 2: x.bar(a, b, is); break;
                case 3: x.stays(a, b, c); break;
                case 4: x.gone(a); break;
                case 5: x.absent(a, b, is); break;
                case 6: x.town(a); break;
                case 7: x.start(a); break;
                case 8: x.season(a); break;
                case 9: x.day(a); break;
                case 10: x.room(a, b, is, c); break;
                case 11: x.put(a, b, c); break;
                case 12: x.settle(a, b); break;
                case 13: x.most(a); break;
                case 14: x.right(a); break;
                case 15: x.listed(a, b, c); break;
                case 16: x.feed(random.nextLong(), a, b); break;
                case 17: x.read(a); break;
                case 18: x.worth(a, b); break;
                case 19: x.give(a, b); break;
                case 20: x.buy(a, b); break;
                case 21: x.loss(a, b, c, d, a); break;
                case 22: x.gives(a, b, c, d, b); break;
                case 23: x.sight(a, b, c); break;
                case 24: x.way(a, b, c); break;
                case 25: x.clear(); break;
                case 26: x.trip(a); break;
                case 27: x.tripOf(a); break;
                case 28: x.night(); break;
                case 29: x.lay(a, b); break;
                case 30: x.meals(a, b); break;
                case 31: x.townOf(a, b); break;
                case 32: x.roomOf(a, b, c); break;
                case 33: x.personOf(a, b); break;
                case 34: x.count(a); break;
                case 35: Check.read(x, 0, "fee left+held-used and people<season when 1;"); break;
                case 36: case 37: wildThrow(x, what, a); break;
                default: x.moved();
            }
        } catch (RuntimeException e) {
            check.fail("call " + what + " of " + a + ", " + b + ", " + c + ", " + d + " threw " + e);
        }
    }

    private static void wildThrow(TourRooms x, int what, int a) {
        try {
            if (what == 36) {
                x.bill(a);
                check.due("bill(" + a + ") of a closed night", a >= 0 && a < x.count(6), true);
            } else {
                x.owes(a);
                check.due("owes(" + a + ") of a person", a >= 0 && a < x.count(3), true);
            }
        } catch (NoSuchElementException e) {
            int there = x.count(what == 36 ? 6 : 3);
            check.due("thrown for " + a, a < 0 || a >= there, true);
        }
    }
}
