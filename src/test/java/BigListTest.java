import java.util.Random;

/** Promises 14 to 17 with many people: settle, moved, most and right against Plain, by a fixed seed. */
public final class BigListTest {
    private static final Check check = new Check();

    private final Random random;
    private final String run;
    private final TourRooms x = new TourRooms();
    private final Plain y = new Plain();
    private final int people;
    private final int rooms;

    private BigListTest(int seed) {
        random = new Random(seed);
        run = "run " + seed + ": ";
        people = 7 + random.nextInt(4);
        rooms = 4 + random.nextInt(3);
    }

    public static void main(String[] args) {
        int runs = args.length > 0 ? Integer.parseInt(args[0]) : 60;
        for (int seed = 0; seed < runs; seed++) {
            BigListTest test = new BigListTest(seed);
            test.build();
            test.compare();
        }
        check.end();
    }

    private void build() {
        x.town(1);
        y.town(1);
        for (int k = 0; k < people; k++) {
            boolean shares = random.nextInt(6) > 0;
            boolean low = random.nextInt(5) == 0;
            int sort = random.nextInt(2);
            int from = random.nextInt(8) == 0 ? 1 : 0;
            check.due(run + "person", x.person(shares, sort, low, 0, from, 5),
                y.person(shares, sort, low, 0, from, 5));
        }
        for (int k = 0; k < rooms; k++) {
            int beds = random.nextInt(5) > 0 ? 2 : 1;
            boolean low = random.nextBoolean();
            int price = 10 * (1 + random.nextInt(4));
            check.due(run + "room", x.room(0, beds, low, price), y.room(0, beds, low, price));
        }
        for (int k = 0; k < 3; k++) {
            int a = random.nextInt(people);
            int b = random.nextInt(people);
            check.due(run + "friends", x.friends(a, b, true), y.friends(a, b, true));
            bar();
        }
        if (random.nextInt(4) == 0) {
            check.due(run + "give", x.give(0, rooms - 1), y.give(0, rooms - 1));
        }
        for (int k = 0; k < 12; k++) {
            int person = random.nextInt(people);
            int room = random.nextInt(rooms);
            check.due(run + "put", x.put(0, person, room), y.put(0, person, room));
        }
    }

    private void bar() {
        int a = random.nextInt(people);
        int b = random.nextInt(people);
        check.due(run + "bar", x.bar(a, b, true), y.bar(a, b, true));
    }

    private void compare() {
        check.due(run + "most", x.most(0), y.most(0));
        for (int k = 0; k < 2; k++) {
            int how = random.nextInt(2);
            check.due(run + "settle, how " + how, x.settle(0, how), y.settle(0, how));
            check.due(run + "moved", x.moved(), y.moved());
            for (int room = 0; room < rooms; room++) {
                check.due(run + "who is in ROOM " + room, x.roomOf(0, room, 4), y.roomOf(0, room, 4));
            }
            bar();
            check.due(run + "right", x.right(0), y.right(0));
        }
    }
}
