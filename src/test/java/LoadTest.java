import java.lang.management.ManagementFactory;

/** The dearest calls, 500 of each on one object: they must end soon and make next to nothing. */
public final class LoadTest {
    private static final Check check = new Check();
    private static final long MOST_SECONDS = 60;
    private static final long MOST_BYTES = 400_000;

    private interface Call {
        void on(TourRooms x);
    }

    public static void main(String[] args) {
        load("settle and move", fullHouse(), x -> {
            x.settle(0, 0);
            x.stays(3, 1, 1);
            x.stays(3, 0, 5);
        }, 12);
        load("settle", fullHouse(), x -> x.settle(0, 1), 400);
        load("most", fullHouse(), x -> x.most(0), 400);
        load("loss", fullHouse(), x -> x.loss(0, 30, 3, 3, 500), 400);
        load("trip", sixSights(), x -> x.trip(0), 400);
        load("read", new TourRooms(), x -> {
            x.town(1);
            Check.feed(x, dearText());
            x.read(0);
        }, 20);
        check.end();
    }

    private static void load(String name, TourRooms x, Call call, int times) {
        com.sun.management.ThreadMXBean bean =
            (com.sun.management.ThreadMXBean) ManagementFactory.getThreadMXBean();
        long bytes = bean.getCurrentThreadAllocatedBytes();
        long time = System.nanoTime();
        for (int k = 0; k < times; k++) {
            call.on(x);
        }
        time = (System.nanoTime() - time) / 1_000_000;
        bytes = bean.getCurrentThreadAllocatedBytes() - bytes;
        System.out.println(name + ": " + time + " ms, " + bytes + " bytes");
        if (time > MOST_SECONDS * 1000 || bytes > MOST_BYTES) {
            check.fail(name + " is too dear");
        }
    }

    private static TourRooms fullHouse() {
        TourRooms x = new TourRooms();
        x.town(5);
        for (int k = 0; k < 10; k++) {
            x.person(true, 0, false, 0, 0, 5);
            x.room(0, 2, true, 100 + k % 3);
        }
        check.due("read", Check.read(x, 0, dearText()), 0);
        return x;
    }

    /** A fee that takes long to tell: 400 bytes. */
    private static String dearText() {
        StringBuilder text = new StringBuilder("fee 1");
        while (text.length() < 390) {
            text.append("+1-1");
        }
        while (text.length() < 399) {
            text.append(' ');
        }
        return text.append(';').toString();
    }

    private static TourRooms sixSights() {
        TourRooms x = new TourRooms();
        for (int k = 0; k < 6; k++) {
            x.sight(0, 1440, 10);
        }
        for (int from = 0; from < 7; from++) {
            for (int to = 0; to < 7; to++) {
                x.way(from, to, 10 + (from * 3 + to) % 7);
            }
        }
        check.due("all six", x.trip(0), 6);
        return x;
    }
}
